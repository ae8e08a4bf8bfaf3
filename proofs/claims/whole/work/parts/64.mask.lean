/-! ===== stretches written over; masks that are made ===== -/
def fL (σ : St) (i o : Nat) (f : Nat → Int64) (n : Nat) : St := (σ.1, fun a b => if a = i ∧ o ≤ b ∧ b < o + n then f (b - o) else σ.2 a b)
def fI (σ : St) (i o : Nat) (f : Nat → Int32) (n : Nat) : St := (fun a b => if a = i ∧ o ≤ b ∧ b < o + n then f (b - o) else σ.1 a b, σ.2)
theorem fL_0 (σ : St) (i o : Nat) (f : Nat → Int64) : fL σ i o f 0 = σ := Prod.ext rfl (funext fun a => funext fun b => if_neg (by omega))
theorem fI_0 (σ : St) (i o : Nat) (f : Nat → Int32) : fI σ i o f 0 = σ := Prod.ext (funext fun a => funext fun b => if_neg (by omega)) rfl
theorem fL_s (σ : St) (i o : Nat) (f : Nat → Int64) (m : Nat) : sL (fL σ i o f m) i (o + m) (f m) = fL σ i o f (m + 1) := by
  refine Prod.ext rfl (funext fun a => funext fun b => ?_)
  show (if a = i ∧ b = o + m then f m else if a = i ∧ o ≤ b ∧ b < o + m then f (b - o) else σ.2 a b) = if a = i ∧ o ≤ b ∧ b < o + (m + 1) then f (b - o) else σ.2 a b
  by_cases h1 : a = i ∧ b = o + m
  · rw [if_pos h1, if_pos (by omega), show b - o = m by omega]
  · rw [if_neg h1]
    by_cases h2 : a = i ∧ o ≤ b ∧ b < o + m
    · rw [if_pos h2, if_pos (by omega)]
    · rw [if_neg h2, if_neg (by omega)]
theorem fI_s (σ : St) (i o : Nat) (f : Nat → Int32) (m : Nat) : sI (fI σ i o f m) i (o + m) (f m) = fI σ i o f (m + 1) := by
  refine Prod.ext (funext fun a => funext fun b => ?_) rfl
  show (if a = i ∧ b = o + m then f m else if a = i ∧ o ≤ b ∧ b < o + m then f (b - o) else σ.1 a b) = if a = i ∧ o ≤ b ∧ b < o + (m + 1) then f (b - o) else σ.1 a b
  by_cases h1 : a = i ∧ b = o + m
  · rw [if_pos h1, if_pos (by omega), show b - o = m by omega]
  · rw [if_neg h1]
    by_cases h2 : a = i ∧ o ≤ b ∧ b < o + m
    · rw [if_pos h2, if_pos (by omega)]
    · rw [if_neg h2, if_neg (by omega)]
theorem fL_s0 (σ : St) (i : Nat) (f : Nat → Int64) (m : Nat) : sL (fL σ i 0 f m) i m (f m) = fL σ i 0 f (m + 1) := by
  have := fL_s σ i 0 f m
  rwa [Nat.zero_add] at this
theorem fI_s0 (σ : St) (i : Nat) (f : Nat → Int32) (m : Nat) : sI (fI σ i 0 f m) i m (f m) = fI σ i 0 f (m + 1) := by
  have := fI_s σ i 0 f m
  rwa [Nat.zero_add] at this
theorem fL_in {σ : St} {i o x n : Nat} {f : Nat → Int64} (h : x < n) : (fL σ i o f n).2 i (o + x) = f x := by
  show (if i = i ∧ o ≤ o + x ∧ o + x < o + n then f (o + x - o) else _) = _
  rw [if_pos ⟨rfl, by omega, by omega⟩, show o + x - o = x by omega]
theorem fI_in {σ : St} {i o x n : Nat} {f : Nat → Int32} (h : x < n) : (fI σ i o f n).1 i (o + x) = f x := by
  show (if i = i ∧ o ≤ o + x ∧ o + x < o + n then f (o + x - o) else _) = _
  rw [if_pos ⟨rfl, by omega, by omega⟩, show o + x - o = x by omega]
theorem fL_in0 {σ : St} {i x n : Nat} {f : Nat → Int64} (h : x < n) : (fL σ i 0 f n).2 i x = f x := by
  have := fL_in (σ := σ) (i := i) (o := 0) (f := f) h
  rwa [Nat.zero_add] at this
theorem fI_in0 {σ : St} {i x n : Nat} {f : Nat → Int32} (h : x < n) : (fI σ i 0 f n).1 i x = f x := by
  have := fI_in (σ := σ) (i := i) (o := 0) (f := f) h
  rwa [Nat.zero_add] at this
theorem fL_ne {σ : St} {i o a n : Nat} {f : Nat → Int64} (h : a ≠ i) : (fL σ i o f n).2 a = σ.2 a := funext fun b => if_neg (fun q => h q.1)
theorem fI_ne {σ : St} {i o a n : Nat} {f : Nat → Int32} (h : a ≠ i) : (fI σ i o f n).1 a = σ.1 a := funext fun b => if_neg (fun q => h q.1)
theorem fL_out {σ : St} {i o a b n : Nat} {f : Nat → Int64} (h : b < o ∨ o + n ≤ b) : (fL σ i o f n).2 a b = σ.2 a b := if_neg (by omega)
theorem fI_out {σ : St} {i o a b n : Nat} {f : Nat → Int32} (h : b < o ∨ o + n ≤ b) : (fI σ i o f n).1 a b = σ.1 a b := if_neg (by omega)
theorem fL_oc {σ : St} {i o n : Nat} {f : Nat → Int64} : Oc i σ (fL σ i o f n) := fun _ hj => ⟨rfl, fL_ne hj⟩
theorem fI_oc {σ : St} {i o n : Nat} {f : Nat → Int32} : Oc i σ (fI σ i o f n) := fun _ hj => ⟨fI_ne hj, rfl⟩
theorem Agr.bindC {α β : Type} {tbl : List String} {R : St → St → Prop} {o : Option β} {P : β → Prop} {kk : β → Option (Except String α × St)} {mo : Option (α × St)} (h : wp o P) (hk : ∀ r, P r → Agr tbl R (kk r) mo) : Agr tbl R (o.bind kk) mo := by
  obtain ⟨r, rfl, h⟩ := h
  exact hk r h
theorem Agr.bindM {α β : Type} {tbl : List String} {R : St → St → Prop} {o : Option β} {P : β → Prop} {kk : β → Option (α × St)} {co : Option (Except String α × St)} (h : wp o P) (hk : ∀ r, P r → Agr tbl R co (kk r)) : Agr tbl R co (o.bind kk) := by
  obtain ⟨r, rfl, h⟩ := h
  exact hk r h
def upM (M : Nat → Nat → Bool) (m : Nat) (p : Nat → Bool) : Nat → Nat → Bool := fun a r => if a = m then p r else M a r
/-- the bits of the mask that is made -/
def Mk (σ : St) (p : Nat → Bool) : Prop := ∀ r, r < 192 → lb (σ.2 26 (r / 64)) (r % 64) = p r
def inc (σ : St) (r : Nat) : St := sL σ 26 (r / 64) (σ.2 26 (r / 64) ||| (1 <<< ((nI (r % 64)).toInt64 &&& 63)))
section MASK
variable {n k : Nat} {w : Nat → Nat} {C : Nat → Nat → Int64} {M : Nat → Nat → Bool} {q : Int32} {σ τ v u u' J : St} {c r m : Nat} {p F : Nat → Bool} {I : Ims} {tbl : List String}
theorem begin_eq (σ : St) : c_X3_begin σ = some (fL σ 26 0 (fun _ => 0) 3) := by
  unfold c_X3_begin
  rw [lp_g (fun i => (nI i, fL σ 26 0 (fun _ => 0) i)) 3 (fL σ 26 0 (fun _ => 0) 3) ?_ ?_ ?_ ?_]
  · rfl
  · rw [fL_0]; rfl
  · decide
  · intro i hi
    simp only [if_neg (show ¬ (3 : Int32) ≤ nI i from nI_ge (a := i) (b := 3) hi (by decide)), ix3 hi, Option.bind_some, nI_s]
    rw [fL_s0 σ 26 (fun _ => 0) i]
  · exact if_pos (show (3 : Int32) ≤ nI 3 by decide)
theorem Mk_begin : Mk (fL σ 26 0 (fun _ => 0) 3) (fun _ => false) := fun r hr => by
  rw [fL_in0 (show r / 64 < 3 by omega)]
  exact lb_0 _
theorem Mk.put (h : Mk σ p) (hr : r < 192) : Mk (inc σ r) (fun x => p x || decide (x = r)) := fun x hx => by
  unfold inc
  rw [sL2]
  have h1 := h x hx
  by_cases e : x / 64 = r / 64
  · rw [if_pos ⟨rfl, e⟩, lb_or, ← e, h1, lb_bit1 (by omega) (by omega)]
    show (p x || decide (x % 64 = r % 64)) = (p x || decide (x = r))
    congr 1
    apply decide_eq_decide.mpr
    omega
  · rw [if_neg (fun q => e q.2), h1]
    show p x = (p x || decide (x = r))
    rw [decide_eq_false (show ¬ x = r from fun q => e (by rw [q])), Bool.or_false]
theorem inc_oc : Oc 26 σ (inc σ r) := Oc.rf.sL
theorem include_eq (hC : RC n k w C M q σ) (hW : Wf n k w C M) (hr : r < n) : c_X3_include σ (nI r) = some (inc σ r) := by
  unfold c_X3_include
  have h1 := hW.r192 hr
  rw [if_neg (nI_pos (by omega)), hC.rows, if_neg (ltL n hW.n31 hr), mod64 h1, row64 h1, ix3 (by omega)]
  rfl
theorem include_out (hC : RC n k w C M q σ) (hW : Wf n k w C M) {a : Int32} (ha : inB a n = false) : c_X3_include σ a = some σ := by
  unfold c_X3_include
  by_cases h1 : a < 0
  · rw [if_pos h1]; rfl
  · rw [if_neg h1]
    have h2 : σ.1 1 0 ≤ a := by
      rw [hC.rows, fa_le, nI_toInt hW.n31]
      rw [fa_lt] at h1
      have h0 : (0 : Int32).toInt = 0 := by decide
      unfold inB at ha
      have e1 : 0 ≤ a.toInt := by omega
      simp [e1] at ha
      exact ha
    rw [if_pos h2]; rfl
/-- a loop over the rows that makes a mask -/
theorem cmade {f : Int32 × St → Option ((Int32 × St) ⊕ St)} (F : Nat → Bool) (hW : Wf n k w C M) (hC : RC n k w C M q v) (h0 : Mk v (fun _ => false)) (hs : ∀ i σ', i < n → RC n k w C M q σ' → Mk σ' (fun r => decide (r < i) && F r) → f (nI i, σ') = some (.inl (nI (i + 1), if F i = true then inc σ' i else σ'))) (hx : ∀ σ', RC n k w C M q σ' → f (nI n, σ') = some (.inr σ')) : wp (lp 5000 f ((0 : Int32), v)) (fun σ' => RC n k w C M q σ' ∧ Mk σ' (fun r => decide (r < n) && F r)) := by
  refine wp_lp n (fun i s => s.1 = nI i ∧ RC n k w C M q s.2 ∧ Mk s.2 (fun r => decide (r < i) && F r)) hW.n5 ⟨rfl, hC, fun r hr => ?_⟩ (fun i s hi hI => ?_) (fun s hI => ?_)
  · rw [h0 r hr]; simp
  · obtain ⟨a, σ'⟩ := s
    obtain ⟨rfl, h1, h2⟩ := hI
    refine wp_eq (hs i σ' hi h1 h2) ⟨rfl, ?_, ?_⟩
    · show RC n k w C M q (if F i = true then inc σ' i else σ')
      split
      · exact h1.sL (by decide)
      · exact h1
    · show Mk (if F i = true then inc σ' i else σ') _
      intro x hx
      by_cases hF : F i = true
      · rw [if_pos hF, h2.put (hW.r192 hi) x hx]
        by_cases e : x = i
        · subst e; simp [hF]
        · have : (x < i + 1) = (x < i) := propext ⟨fun _ => by omega, fun _ => by omega⟩
          simp [e, this]
      · rw [if_neg hF, h2 x hx]
        by_cases e : x = i
        · subst e; simp [hF]
        · have : (x < i + 1) = (x < i) := propext ⟨fun _ => by omega, fun _ => by omega⟩
          simp [this]
  · obtain ⟨a, σ'⟩ := s
    obtain ⟨rfl, h1, h2⟩ := hI
    exact wp_eq (hx σ' h1) ⟨h1, h2⟩
theorem maskCount_eq (τ : St) (hm : m < 8) : c_X1_maskCount τ (nI m) = some (nI (fb_ct (fun r => lb (τ.2 (11 + m) (r / 64)) (r % 64)) 192)) := by
  unfold c_X1_maskCount
  rw [lp_g (fun i => (nI (fb_ct (fun r => lb (τ.2 (11 + m) (r / 64)) (r % 64)) (64 * i)), nI i)) 3 (nI (fb_ct (fun r => lb (τ.2 (11 + m) (r / 64)) (r % 64)) 192)) ?_ ?_ ?_ ?_]
  · rfl
  · rfl
  · decide
  · intro i hi
    simp only [if_neg (show ¬ (3 : Int32) ≤ nI i from nI_ge (a := i) (b := 3) hi (by decide)), ix3 hi, ix8 hm, bitCount_eq, Option.bind_some, nI_s, nI_add]
    congr 4
    rw [show 64 * (i + 1) = 64 * i + 64 by omega, fb_ct_split]
    congr 1
    refine fb_ct_cong fun x hx => ?_
    rw [show (64 * i + x) / 64 = i by omega, show (64 * i + x) % 64 = x by omega]
  · exact if_pos (show (3 : Int32) ≤ nI 3 by decide)
theorem become_eq (hm : m < 8) (hp : Mk σ p) : c_X3_become σ (nI m) = some (nI (fb_ct p 192), fL σ (11 + m) 0 (σ.2 26) 3) := by
  unfold c_X3_become
  rw [lp_g (fun i => (nI i, fL σ (11 + m) 0 (σ.2 26) i)) 3 (fL σ (11 + m) 0 (σ.2 26) 3) ?_ ?_ ?_ ?_]
  · rw [Option.bind_some, maskCount_eq _ hm, Option.bind_some]
    have e : fb_ct (fun r => lb ((fL σ (11 + m) 0 (σ.2 26) 3).2 (11 + m) (r / 64)) (r % 64)) 192 = fb_ct p 192 := fb_ct_cong fun r hr => by
      rw [fL_in0 (by omega)]
      exact hp r hr
    rw [e]
  · rw [fL_0]; rfl
  · decide
  · intro i hi
    simp only [if_neg (show ¬ (3 : Int32) ≤ nI i from nI_ge (a := i) (b := 3) hi (by decide)), ix3 hi, ix8 hm, Option.bind_some, nI_s]
    rw [fL_ne (show 26 ≠ 11 + m by omega), fL_s0 σ (11 + m) (σ.2 26) i]
  · exact if_pos (show (3 : Int32) ≤ nI 3 by decide)
theorem RC.newMask (h : RC n k w C M q σ) (hm : m < 8) (hp : Mk σ p) : RC n k w C (upM M m p) q (fL σ (11 + m) 0 (σ.2 26) 3) := by
  have hk := h.1.1
  refine ⟨h.1, h.cols, h.kept, fun c hc => h.wid hc, fun c r hc hr => ?_, fun a r ha hr => ?_⟩
  · rw [fL_ne (by omega)]; exact h.cell hc hr
  · unfold upM
    by_cases e : a = m
    · subst e
      rw [if_pos rfl, fL_in0 (by omega)]
      exact hp r hr
    · rw [if_neg e, fL_ne (by omega)]
      exact h.bit ha hr
theorem Wf.newMask (h : Wf n k w C M) (hp : ∀ r, p r = true → r < n) : Wf n k w C (upM M m p) := by
  refine ⟨h.1, h.2.1, h.2.2.1, h.2.2.2.1, fun a r ha hr => ?_⟩
  unfold upM at hr
  by_cases e : a = m
  · rw [if_pos e] at hr; exact hp r hr
  · rw [if_neg e] at hr; exact h.hm ha hr
/-- the reference's loop over all rows -/
theorem mmade {f : Int32 × St → Option ((Int32 × St) ⊕ St)} (F : Nat → Bool) (h : RM n k w C M q J u) (hs : ∀ i u', i < 192 → RM n k w C M q J u' → f (nI i, u') = some (.inl (nI (i + 1), sI u' 5 i (bI (F i))))) (hx : ∀ u', f (nI 192, u') = some (.inr u')) : lp 5000 f ((0 : Int32), u) = some (fI u 5 0 (fun r => bI (F r)) 192) := by
  refine lp_g (fun i => (nI i, fI u 5 0 (fun r => bI (F r)) i)) 192 _ ?_ (by decide) (fun i hi => ?_) (hx _)
  · rw [fI_0]; rfl
  · rw [hs i _ hi (h.oc (by decide) fI_oc), fI_s0 u 5 (fun r => bI (F r)) i]
theorem becomes_eq (h : RM n k w C M q J u) (hW : Wf n k w C M) (hm : m < 8) (F : Nat → Bool) (hF : ∀ r, r < n → u.1 5 r = bI (F r)) : m_X4_becomes u (nI m) = some (nI (fb_ct (fun r => decide (r < n) && F r) 192), fI u 4 (192 * m) (fun r => bI (decide (r < n) && F r)) 192) := by
  unfold m_X4_becomes
  rw [lp_g (fun i => (nI (fb_ct (fun r => decide (r < n) && F r) i), nI i, fI u 4 (192 * m) (fun r => bI (decide (r < n) && F r)) i)) 192 (nI (fb_ct (fun r => decide (r < n) && F r) 192), fI u 4 (192 * m) (fun r => bI (decide (r < n) && F r)) 192) ?_ ?_ ?_ ?_]
  · rfl
  · rw [fI_0]; rfl
  · decide
  · intro i hi
    have e5 : (fI u 4 (192 * m) (fun r => bI (decide (r < n) && F r)) i).1 0 5 = nI n := by rw [fI_ne (by decide)]; exact h.rows
    have e1 : (if nI n ≤ nI i then some (0 : Int32) else ((ix (nI i) 192).bind fun j15 => (if (fI u 4 (192 * m) (fun r => bI (decide (r < n) && F r)) i).1 5 j15 = 0 then some (0 : Int32) else some (1 : Int32)))) = some (bI (decide (i < n) && F i)) := by
      rw [ix192 hi, Option.bind_some, fI_ne (by decide)]
      by_cases hin : i < n
      · rw [if_neg (ltL n hW.n31 hin), hF i hin, if_bI, decide_eq_true hin]
        cases F i <;> rfl
      · rw [if_pos (nI_le (by omega) (by omega)), decide_eq_false hin]; rfl
    simp only [if_neg (lt192 hi), at_eq, Option.bind_some, e5, e1, ixB hm hi, nz_bI, sIs, flag_eq, nI_s, fI_s u 4 (192 * m) (fun r => bI (decide (r < n) && F r)) i, fI_in (Nat.lt_succ_self i)]
    rw [bI_nI, nI_add]
    rfl
  · exact if_pos ge192
theorem RM.newMask (h : RM n k w C M q J u) (hm : m < 8) : RM n k w C (upM M m p) q J (fI u 4 (192 * m) (fun r => bI (p r)) 192) := by
  refine ⟨by rw [fI_ne (by decide)]; exact h.rows, by rw [fI_ne (by decide)]; exact h.cols, by rw [fI_ne (by decide)]; exact h.kept, fun c hc => by rw [fI_ne (by decide)]; exact h.wid hc, fun c r hc hr => by rw [fI_ne (by decide)]; exact h.has hc hr, fun c r hc hr hN => h.cell hc hr hN, fun a r ha hr => ?_, fun i hi => by rw [fI_ne (by omega)]; exact h.img hi⟩
  unfold upM
  by_cases e : a = m
  · subst e
    rw [if_pos rfl, fI_in hr]
  · rw [if_neg e, fI_out (by omega)]
    exact h.msk ha hr
/-- both become what was made -/
theorem mask_end (hW : Wf n k w C M) (hI : ImR I J) (hC : RC n k w C M q σ) (hp : Mk σ (fun r => decide (r < n) && F r)) (hM : RM n k w C M q J u) (hF : ∀ r, r < n → u.1 5 r = bI (F r)) (ht : u.1 0 0 = 0) (hm : m < 8) : Agr tbl (Rl I) ((c_X3_become σ (nI m)).bind fun v => some (.ok v.1, v.2)) ((m_X4_becomes u (nI m)).bind fun v => some (v.1, v.2)) := by
  rw [become_eq hm hp, becomes_eq hM hW hm F hF]
  exact Agr.ok (hW.newMask (fun r hr => by rw [Bool.and_eq_true, decide_eq_true_eq] at hr; exact hr.1)) hI rfl rfl (by rw [fI_ne (by decide)]; exact ht) (hC.newMask hm hp) (hM.newMask hm)
end MASK
/-- comparing -/
def stB (x : Int64) (h : Int32) (y : Int64) : Bool := if h = 0 then !decide (y ≤ x) else if h = 1 then !decide (y < x) else if h = 2 then decide (x = y) else if h = 3 then !decide (x = y) else if h = 4 then !decide (x < y) else !decide (x ≤ y)
theorem stands_eq (σ : St) (x : Int64) (h : Int32) (y : Int64) : c_X3_stands σ x h y = some (bI (stB x h y)) := by
  unfold c_X3_stands stB
  simp only [s01, s10, Option.bind_some, nz_bI]
  repeat' split
  all_goals rfl
theorem isSo_eq (σ : St) (x : Int64) (h : Int32) (y : Int64) : m_X4_isSo σ x h y = some (bI (stB x h y)) := stands_eq σ x h y
theorem op_compare (I : Ims) (s u : St) (a0 a1 a2 : Int32) (a3 : Int64) (a4 : Int32) (h : Rl I s u) : Agr ["java/lang/IndexOutOfBoundsException", "java/lang/IllegalArgumentException"] (Rl I) (c_X3_compare s a0 a1 a2 a3 a4) (m_X4_compare u a0 a1 a2 a3 a4) := by
  obtain ⟨n, k, w, C, M, q, J, hW, hC, hM0, hI⟩ := h
  unfold c_X3_compare m_X4_compare
  have hM : RM n k w C M q J (sI u 0 0 0) := hM0.sI0 (Or.inl rfl)
  have ht : (sI u 0 0 0).1 0 0 = 0 := sIs
  generalize sI u 0 0 0 = u0 at hM ht ⊢
  simp only [needMask_eq, needColumn_eq hC hW, xB_gX, isMask_eq, areIn_eq hM hW, isIn_eq, rg_if, needArgument_eq, Option.bind_some, if_bI, fails_eq, t64]
  by_cases h1 : inB a0 8 = true
  case neg => simp only [if_neg h1]; exact Agr.err hW hI 0 rfl rfl rfl sIs hC (hM.sI0 (Or.inl rfl))
  by_cases h2 : inB a1 k = true
  case neg => simp only [if_pos h1, if_neg h2, h2, Bool.false_and]; exact Agr.err hW hI 0 rfl rfl rfl sIs hC (hM.sI0 (Or.inl rfl))
  by_cases h3 : inB a4 8 = true
  case neg => simp only [if_pos h1, if_pos h2, if_neg h3, h3, Bool.and_false]; exact Agr.err hW hI 0 rfl rfl rfl sIs hC (hM.sI0 (Or.inl rfl))
  have e5 : (5 : Int32).toInt = (5 : Int64).toInt := by decide
  have e0 : (0 : Int32).toInt = (0 : Int64).toInt := by decide
  simp only [e5, e0]
  by_cases h4 : rg a2.toInt (0 : Int64).toInt (5 : Int64).toInt = true
  case neg => simp only [if_pos h1, if_pos h2, if_pos h3, h2, h3, Bool.and_self, if_neg h4, if_true]; exact Agr.err hW hI 1 rfl rfl rfl sIs hC (hM.sI0 (Or.inl rfl))
  simp only [if_pos h1, if_pos h2, if_pos h3, h2, h3, Bool.and_self, if_pos h4, if_true]
  obtain ⟨m, hm, rfl⟩ := inB_ex (by decide) h1
  obtain ⟨c, hc, rfl⟩ := inB_ex hW.k31 h2
  obtain ⟨m2, hm2, rfl⟩ := inB_ex (by decide) h3
  have hc6 := hW.c6 hc
  rw [begin_eq, Option.bind_some]
  refine Agr.bindC (cmade (fun r => (C c r != ((-9223372036854775808) : Int64) && M m2 r) && stB (C c r) a2 a3) hW (hC.oc (by decide) fL_oc) Mk_begin (fun i σ' hi hC' _ => ?_) (fun σ' hC' => ?_)) (fun σ' hσ => ?_)
  · simp only [hC'.rows, if_neg (ltL n hW.n31 hi), isNumbered_eq hC' hW hc hi hm2, Option.bind_some, if_bI, ix6 hc6, ix192 (hW.r192 hi), hC'.cell hc hi, stands_eq, include_eq hC' hW hi, nI_s]
    cases (C c i != ((-9223372036854775808) : Int64) && M m2 i) <;> cases stB (C c i) a2 a3 <;> rfl
  · simp only [hC'.rows]
    exact if_pos (geL n hW.n31)
  rw [mmade (fun r => (C c r != ((-9223372036854775808) : Int64) && M m2 r) && stB (C c r) a2 a3) hM (fun i u' hi hM' => ?_) (fun u' => if_pos ge192), Option.bind_some]
  · exact mask_end hW hI hσ.1 hσ.2 (hM.oc (by decide) fI_oc) (fun r hr => fI_in0 (hW.r192 hr)) (by rw [fI_ne (by decide)]; exact ht) hm
  · simp only [if_neg (lt192 hi), hasUnder_eq hM' hW hc hi hm2, Option.bind_some, if_bI, at_eq, ixA hc6 hi, ix192 hi, isSo_eq, nI_s]
    by_cases e : (C c i != ((-9223372036854775808) : Int64) && M m2 i) = true
    · have e1 := Bool.and_eq_true_iff.mp e
      rw [hM'.cell hc (hW.hm hm2 e1.2) (by simpa using e1.1)]
      simp only [e, if_true]
      cases stB (C c i) a2 a3 <;> rfl
    · simp only [Bool.not_eq_true] at e
      simp only [e]
      rfl
