/-! ===== the pure part: what a text answers, by its end ===== -/
def wp {α : Type} (o : Option α) (P : α → Prop) : Prop := ∃ x, o = some x ∧ P x
theorem wp_some {α : Type} {x : α} {P : α → Prop} (h : P x) : wp (some x) P := ⟨x, rfl, h⟩
theorem wp_eq {α : Type} {o : Option α} {x : α} {P : α → Prop} (h : o = some x) (hp : P x) : wp o P := ⟨x, h, hp⟩
theorem wp_bind {α β : Type} {o : Option α} {k : α → Option β} {P : β → Prop} (h : wp o (fun a => wp (k a) P)) : wp (o.bind k) P := by
  obtain ⟨a, rfl, h⟩ := h
  exact h
theorem wp_be {α β : Type} {o : Option α} {a : α} {k : α → Option β} {P : β → Prop} (h : o = some a) (hk : wp (k a) P) : wp (o.bind k) P := by
  rw [h]
  exact hk
theorem wp_mono {α : Type} {o : Option α} {P Q : α → Prop} (h : wp o P) (hq : ∀ x, P x → Q x) : wp o Q := by
  obtain ⟨a, e, h⟩ := h
  exact ⟨a, e, hq a h⟩
theorem wp_bm {α β : Type} {o : Option α} {k : α → Option β} {Q : α → Prop} {P : β → Prop} (h : wp o Q) (hk : ∀ a, Q a → wp (k a) P) : wp (o.bind k) P := wp_bind (wp_mono h hk)
theorem wp_ite {α : Type} {c : Prop} [Decidable c] {a b : Option α} {P : α → Prop} (h1 : c → wp a P) (h2 : ¬ c → wp b P) : wp (if c then a else b) P := by
  by_cases h : c
  · rw [if_pos h]; exact h1 h
  · rw [if_neg h]; exact h2 h
theorem wp_xB {α β : Type} {o : Option (Except String α × St)} {k : α → St → Option (Except String β × St)} {P : Except String β × St → Prop} (h : wp o (fun p => (∃ e τ, p = (.error e, τ) ∧ P (.error e, τ)) ∨ ∃ a τ, p = (.ok a, τ) ∧ wp (k a τ) P)) : wp (xB o k) P := by
  obtain ⟨p, rfl, h⟩ := h
  rcases h with ⟨e, τ, rfl, h⟩ | ⟨a, τ, rfl, h⟩
  · exact ⟨_, rfl, h⟩
  · exact h
theorem wp_eB {α β : Type} {o : Option (α ⊕ β)} {k : α → Option β} {P : β → Prop} (h : wp o (lpP (fun a => wp (k a) P) P)) : wp (eB o k) P := by
  obtain ⟨r, rfl, h⟩ := h
  cases r with
  | inl a => exact h
  | inr b => exact ⟨b, rfl, h⟩
/-- a loop that counts, by what holds at each turn -/
theorem wp_lp {S R : Type} {f : S → Option (S ⊕ R)} {P : R → Prop} {s : S} (n : Nat) (I : Nat → S → Prop) (hn : n < 5000) (h0 : I 0 s) (hs : ∀ i s, i < n → I i s → wp (f s) (lpP (I (i + 1)) P)) (hx : ∀ s, I n s → wp (f s) (lpP (fun _ => False) P)) : wp (lp 5000 f s) P := by
  refine lp_inv I P n (fun i s hi hI => ?_) (fun s hI => ?_) 5000 0 s (Nat.zero_le _) (by omega) h0
  · obtain ⟨o, e, h⟩ := hs i s hi hI
    cases o with
    | inl s' => exact Or.inl ⟨s', e, h⟩
    | inr r => exact Or.inr ⟨r, e, h⟩
  · obtain ⟨o, e, h⟩ := hx s hI
    cases o with
    | inl s' => exact h.elim
    | inr r => exact ⟨r, e, h⟩
/-- the same, from m on -/
theorem wp_lpm {S R : Type} {f : S → Option (S ⊕ R)} {P : R → Prop} {s : S} (m n : Nat) (I : Nat → S → Prop) (hm : m ≤ n) (hn : n < 5000) (h0 : I m s) (hs : ∀ i s, m ≤ i → i < n → I i s → wp (f s) (lpP (I (i + 1)) P)) (hx : ∀ s, I n s → wp (f s) (lpP (fun _ => False) P)) : wp (lp 5000 f s) P := by
  refine lp_inv (fun i s => m ≤ i ∧ I i s) P n (fun i s hi hI => ?_) (fun s hI => ?_) 5000 m s hm (by omega) ⟨Nat.le_refl _, h0⟩
  · obtain ⟨o, e, h⟩ := hs i s hI.1 hi hI.2
    cases o with
    | inl s' => exact Or.inl ⟨s', e, by have := hI.1; omega, h⟩
    | inr r => exact Or.inr ⟨r, e, h⟩
  · obtain ⟨o, e, h⟩ := hx s hI.2
    cases o with
    | inl s' => exact h.elim
    | inr r => exact ⟨r, e, h⟩
/-- a loop whose states are told -/
theorem lp_g {S R : Type} {f : S → Option (S ⊕ R)} {s0 : S} (g : Nat → S) (n : Nat) (r : R) (h0 : s0 = g 0) (hn : n < 5000) (hs : ∀ i, i < n → f (g i) = some (.inl (g (i + 1)))) (hx : f (g n) = some (.inr r)) : lp 5000 f s0 = some r := by
  rw [h0]
  exact lp_up g n r hs hx 5000 0 (Nat.zero_le _) (by omega)
theorem lp_gm {S R : Type} {f : S → Option (S ⊕ R)} {s0 : S} (g : Nat → S) (m n : Nat) (r : R) (h0 : s0 = g m) (hm : m ≤ n) (hn : n < 5000) (hs : ∀ i, m ≤ i → i < n → f (g i) = some (.inl (g (i + 1)))) (hx : f (g n) = some (.inr r)) : lp 5000 f s0 = some r := by
  obtain ⟨x, e, h⟩ := wp_lpm (f := f) (P := fun x => x = r) m n (fun i s => s = g i) hm hn h0 (fun i s h1 h2 e => by rw [e, hs i h1 h2]; exact wp_some rfl) (fun s e => by rw [e, hx]; exact wp_some rfl)
  rw [e, h]
/-- yes and no -/
def bI (b : Bool) : Int32 := if b then 1 else 0
theorem bI_t : bI true = 1 := rfl
theorem bI_f : bI false = 0 := rfl
theorem bI_z (b : Bool) : (bI b = 0) = (b = false) := by cases b <;> exact propext (by decide)
theorem bI_o (b : Bool) : (bI b = 1) = (b = true) := by cases b <;> exact propext (by decide)
theorem bI_inj (a b : Bool) : (bI a = bI b) = (a = b) := by cases a <;> cases b <;> exact propext (by decide)
theorem nz_bI (b : Bool) : nz (bI b) = bI b := by cases b <;> decide
theorem nz_1 : nz 1 = bI true := by decide
theorem nz_0 : nz 0 = bI false := by decide
theorem if_bI {α : Type} (b : Bool) (x y : α) : (if bI b = 0 then x else y) = if b = true then y else x := by cases b <;> rfl
theorem if_bI1 {α : Type} (b : Bool) (x y : α) : (if bI b = 1 then x else y) = if b = true then x else y := by cases b <;> rfl
theorem s10 (c : Prop) [Decidable c] : (if c then some (1 : Int32) else some 0) = some (bI (decide c)) := by by_cases h : c <;> simp [h, bI]
theorem s01 (c : Prop) [Decidable c] : (if c then some (0 : Int32) else some 1) = some (bI (!decide c)) := by by_cases h : c <;> simp [h, bI]
theorem sb0 (a b : Bool) : (if a = true then some (bI b) else some 0) = some (bI (a && b)) := by cases a <;> rfl
theorem bI_nI (b : Bool) : bI b = nI (if b then 1 else 0) := by cases b <;> rfl
/-- bits of a long -/
def lb (x : Int64) (i : Nat) : Bool := x.toBitVec.getLsbD i
theorem lb_ext {x y : Int64} (h : ∀ i, i < 64 → lb x i = lb y i) : x = y := by
  apply wb_inj
  apply BitVec.eq_of_getLsbD_eq
  intro i hi
  exact h i hi
theorem lb_or (x y : Int64) (i : Nat) : lb (x ||| y) i = (lb x i || lb y i) := by unfold lb; rw [Int64.toBitVec_or, BitVec.getLsbD_or]
theorem lb_and (x y : Int64) (i : Nat) : lb (x &&& y) i = (lb x i && lb y i) := by unfold lb; rw [Int64.toBitVec_and, BitVec.getLsbD_and]
theorem lb_xor (x y : Int64) (i : Nat) : lb (x ^^^ y) i = (lb x i ^^ lb y i) := by unfold lb; rw [Int64.toBitVec_xor, BitVec.getLsbD_xor]
theorem lb_0 (i : Nat) : lb 0 i = false := by unfold lb; exact BitVec.getLsbD_zero
theorem lb_m1 {i : Nat} (h : i < 64) : lb (-1) i = true := by
  unfold lb
  rw [show (-1 : Int64).toBitVec = BitVec.allOnes 64 from by decide, BitVec.getLsbD_allOnes]
  exact decide_eq_true h
theorem lb_1 (i : Nat) : lb 1 i = decide (i = 0) := by
  unfold lb
  rw [show (1 : Int64).toBitVec = 1#64 from rfl, BitVec.getLsbD_one]
  simp
theorem sh_nI : ∀ j, j < 64 → (((nI j).toInt64 &&& 63).toBitVec.smod 64).toNat = j := by decide +kernel
theorem lb_sar {j : Nat} (hj : j < 64) (x : Int64) {i : Nat} (hi : i < 64) : lb (x >>> ((nI j).toInt64 &&& 63)) i = if j + i < 64 then lb x (j + i) else lb x 63 := by
  unfold lb
  rw [Int64.toBitVec_shiftRight]
  show (x.toBitVec.sshiftRight (((nI j).toInt64 &&& 63).toBitVec.smod 64).toNat).getLsbD i = _
  rw [sh_nI j hj, BitVec.getLsbD_sshiftRight]
  have h : ¬ 64 ≤ i := by omega
  simp [h, BitVec.msb_eq_getLsbD_last]
theorem lb_shl {j : Nat} (hj : j < 64) (x : Int64) {i : Nat} (hi : i < 64) : lb (x <<< ((nI j).toInt64 &&& 63)) i = (decide (j ≤ i) && lb x (i - j)) := by
  unfold lb
  rw [Int64.toBitVec_shiftLeft, BitVec.shiftLeft_eq', sh_nI j hj, BitVec.getLsbD_shiftLeft]
  by_cases h : j ≤ i
  · simp [h, hi, Nat.not_lt.mpr h]
  · simp [h, hi, Nat.lt_of_not_le h]
theorem lb_bit1 {j : Nat} (hj : j < 64) {i : Nat} (hi : i < 64) : lb (1 <<< ((nI j).toInt64 &&& 63)) i = decide (i = j) := by
  rw [lb_shl hj 1 hi, lb_1]
  by_cases h : i = j
  · subst h; simp
  · by_cases h2 : j ≤ i
    · have : ¬ i - j = 0 := by omega
      simp [h, h2, this]
    · simp [h, h2]
/-- one bit asked by a shift -/
theorem lb_ask {j : Nat} (hj : j < 64) (x : Int64) : ((x >>> ((nI j).toInt64 &&& 63)) &&& 1) = if lb x j then 1 else 0 := by
  apply lb_ext
  intro i hi
  rw [lb_and, lb_1, lb_sar hj x hi]
  by_cases h : i = 0
  · subst h
    simp only [Nat.add_zero, if_pos hj, decide_true, Bool.and_true]
    cases lb x j
    · simp [lb_0]
    · simp [lb_1]
  · cases lb x j
    · simp [h, lb_0]
    · simp [h, lb_1]
theorem lb_ask0 {j : Nat} (hj : j < 64) (x : Int64) : (((x >>> ((nI j).toInt64 &&& 63)) &&& 1) = 0) = (lb x j = false) := by
  rw [lb_ask hj]
  cases lb x j <;> exact propext (by decide)
theorem lb_ask1 {j : Nat} (hj : j < 64) (x : Int64) : (((x >>> ((nI j).toInt64 &&& 63)) &&& 1) = 1) = (lb x j = true) := by
  rw [lb_ask hj]
  cases lb x j <;> exact propext (by decide)
/-- numbers in a range -/
def inB (a : Int32) (n : Nat) : Bool := decide (0 ≤ a.toInt) && decide (a.toInt < (n : Int))
def rg (a lo hi : Int) : Bool := decide (lo ≤ a) && decide (a ≤ hi)
theorem inB_ex {a : Int32} {n : Nat} (hn : n < 2 ^ 31) (h : inB a n = true) : ∃ j, j < n ∧ a = nI j := by
  unfold inB at h
  rw [Bool.and_eq_true, decide_eq_true_eq, decide_eq_true_eq] at h
  exact vp_in_of (vp_in_iff.mpr h) hn
theorem inB_nI {j n : Nat} (hj : j < n) (hn : n < 2 ^ 31) : inB (nI j) n = true := by
  unfold inB
  rw [nI_toInt (Nat.lt_trans hj hn), Bool.and_eq_true, decide_eq_true_eq, decide_eq_true_eq]
  omega
theorem rg_if (a lo hi : Int32) : (if a < lo then some (0 : Int32) else (if hi < a then some 0 else some 1)) = some (bI (rg a.toInt lo.toInt hi.toInt)) := by
  unfold rg
  by_cases h1 : a < lo
  · rw [if_pos h1]
    rw [fa_lt] at h1
    have : ¬ lo.toInt ≤ a.toInt := by omega
    simp [this, bI]
  · rw [if_neg h1]
    rw [fa_lt] at h1
    have e1 : lo.toInt ≤ a.toInt := by omega
    by_cases h2 : hi < a
    · rw [if_pos h2]
      rw [fa_lt] at h2
      have : ¬ a.toInt ≤ hi.toInt := by omega
      simp [this, bI]
    · rw [if_neg h2]
      rw [fa_lt] at h2
      have : a.toInt ≤ hi.toInt := by omega
      simp [this, e1, bI]
theorem isIn_eq (σ : St) (x y z : Int64) : m_X4_isIn σ x y z = some (bI (rg x.toInt y.toInt z.toInt)) := by
  unfold m_X4_isIn rg
  by_cases h1 : x < y
  · rw [if_pos h1]
    rw [fa_lt64] at h1
    have : ¬ y.toInt ≤ x.toInt := by omega
    simp [this, bI, nz]
  · rw [if_neg h1]
    rw [fa_lt64] at h1
    have e1 : y.toInt ≤ x.toInt := by omega
    by_cases h2 : z < x
    · rw [if_pos h2]
      rw [fa_lt64] at h2
      have : ¬ x.toInt ≤ z.toInt := by omega
      simp [this, bI, nz]
    · rw [if_neg h2]
      rw [fa_lt64] at h2
      have : x.toInt ≤ z.toInt := by omega
      simp [this, e1, bI, nz]
theorem rg_inB (a : Int32) (n : Nat) : rg a.toInt 0 ((n : Int) - 1) = inB a n := by
  unfold rg inB
  congr 1
  apply decide_eq_decide.mpr
  omega
theorem rg_t {a lo hi : Int} (h : rg a lo hi = true) : lo ≤ a ∧ a ≤ hi := by
  unfold rg at h
  rw [Bool.and_eq_true, decide_eq_true_eq, decide_eq_true_eq] at h
  exact h
theorem rg_f {a lo hi : Int} (h : ¬ rg a lo hi = true) : a < lo ∨ hi < a := by
  unfold rg at h
  rw [Bool.and_eq_true, decide_eq_true_eq, decide_eq_true_eq] at h
  omega
theorem ix6 {j : Nat} (h : j < 6) : ix (nI j) 6 = some j := ix_nI h (by decide)
theorem ix8 {j : Nat} (h : j < 8) : ix (nI j) 8 = some j := ix_nI h (by decide)
theorem ix3 {j : Nat} (h : j < 3) : ix (nI j) 3 = some j := ix_nI h (by decide)
theorem ix4 {j : Nat} (h : j < 4) : ix (nI j) 4 = some j := ix_nI h (by decide)
theorem ix2 {j : Nat} (h : j < 2) : ix (nI j) 2 = some j := ix_nI h (by decide)
theorem ix192 {j : Nat} (h : j < 192) : ix (nI j) 192 = some j := ix_nI h (by decide)
theorem ixA {c r : Nat} (hc : c < 6) (hr : r < 192) : ix (nI (192 * c + r)) 1152 = some (192 * c + r) := ix_nI (by omega) (by decide)
theorem ixB {m r : Nat} (hc : m < 8) (hr : r < 192) : ix (nI (192 * m + r)) 1536 = some (192 * m + r) := ix_nI (by omega) (by decide)
theorem at_eq (σ : St) (c r : Nat) : m_X4_at σ (nI c) (nI r) = some (nI (192 * c + r)) := by
  unfold m_X4_at
  rw [show (192 : Int32) = nI 192 from rfl, pk_mul, nI_add]
theorem flag_eq (σ : St) (b : Bool) : m_X4_flag σ (bI b) = some (bI b) := by cases b <;> rfl
theorem fails_eq (σ : St) (a : Int32) : m_X4_fails σ a = some ((0 : Int32), sI σ 0 0 a) := rfl
theorem nlt {a b : Nat} (h : b < a) (ha : a < 2 ^ 31) : ¬ nI a ≤ nI b := nI_ge h ha
theorem lt192 {i : Nat} (h : i < 192) : ¬ (192 : Int32) ≤ nI i := nI_ge (a := i) (b := 192) h (by decide)
theorem ge192 : (192 : Int32) ≤ nI 192 := nI_le (a := 192) (b := 192) (Nat.le_refl _) (by decide)
theorem ltL {i : Nat} (n : Nat) (hn : n < 2 ^ 31) (h : i < n) : ¬ nI n ≤ nI i := nI_ge h hn
theorem geL (n : Nat) (hn : n < 2 ^ 31) : nI n ≤ nI n := nI_le (Nat.le_refl _) hn
theorem nI_s (i : Nat) : nI i + 1 = nI (i + 1) := nI_1 i
