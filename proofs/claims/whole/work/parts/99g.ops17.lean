/-! ===== kth, unlike ===== -/
def pickAt (l : List Int64) (T : Int) : Int64 := if 0 ≤ T ∧ T < (l.length : Int) then l.getD T.toNat ((-9223372036854775808) : Int64) else ((-9223372036854775808) : Int64)
theorem map_snd_get {L : List (Nat × Int64)} {i : Nat} {y : Int64} (h : (L.map Prod.snd)[i]? = some y) : ∃ x, L[i]? = some x ∧ x.2 = y := by
  rw [List.getElem?_map] at h
  cases e : L[i]? with
  | none => rw [e] at h; cases h
  | some x =>
    rw [e] at h
    exact ⟨x, rfl, Option.some.inj h⟩
theorem getD_some {l : List Int64} {i : Nat} (h : i < l.length) : l[i]? = some (l.getD i ((-9223372036854775808) : Int64)) := by
  rw [List.getD_eq_getElem?_getD, List.getElem?_eq_getElem h]; rfl
section O17
variable {n k : Nat} {w : Nat → Nat} {C : Nat → Nat → Int64} {M : Nat → Nat → Bool} {q : Int32} {σ τ u v J : St} {c m : Nat} {I : Ims} {tbl : List String} {L : List (Nat × Int64)} {l : List Int64}
theorem Pk.num (h : Pk σ L) {i : Nat} (hi : i < (L.map Prod.snd).length) : σ.2 21 i = (L.map Prod.snd).getD i ((-9223372036854775808) : Int64) := by
  obtain ⟨x, e, ex⟩ := map_snd_get (getD_some hi)
  rw [(h.2.2 i x e).2, ex]
theorem Ls.num (h : Ls v l) {i : Nat} (hi : i < l.length) : v.2 6 i = l.getD i ((-9223372036854775808) : Int64) := h.2.2 i _ (getD_some hi)
theorem numOr_eq (h : Pk σ L) (t : Int32) : c_X0_numberOrNothing σ t = some (pickAt (L.map Prod.snd) t.toInt) := by
  have h192 := h.2.1
  have hl : (L.map Prod.snd).length = L.length := List.length_map ..
  unfold c_X0_numberOrNothing pickAt
  by_cases h1 : t < 0
  · rw [if_pos h1, Option.bind_some]
    rw [fa_lt] at h1
    have h0 : (0 : Int32).toInt = 0 := by decide
    rw [if_neg (by omega)]
  · rw [if_neg h1, h.1]
    obtain ⟨j, hj, rfl⟩ := nI_of h1
    rw [nI_toInt hj]
    by_cases h2 : L.length ≤ j
    · rw [if_pos (nI_le h2 hj), Option.bind_some, if_neg (by omega)]
    · rw [if_neg (ltL _ (by omega) (by omega)), ix192 (by omega), Option.bind_some, Option.bind_some, if_pos (by omega), h.num (by omega)]
      rfl
theorem lstAt_eq (h : Ls v l) (t : Int64) (T : Int) (hT : t.toInt = T) : ((if rg t.toInt 0 (v.1 0 10 - 1).toInt = true then ((ix ((t).toInt32) 192).bind fun j16 => some (v.2 6 j16)) else some ((-9223372036854775808) : Int64)).bind fun (t12 : Int64) => some (t12, v)) = some (pickAt l T, v) := by
  have h192 := h.2.1
  have e : (nI l.length - 1).toInt = (l.length : Int) - 1 := by
    rw [show (1 : Int32) = nI 1 from rfl, pk_sub_toInt (by omega) (by decide)]; rfl
  rw [h.1, e, hT]
  unfold pickAt
  by_cases g : 0 ≤ T ∧ T < (l.length : Int)
  · have g1 : rg T 0 ((l.length : Int) - 1) = true := by
      unfold rg
      rw [Bool.and_eq_true, decide_eq_true_eq, decide_eq_true_eq]; omega
    rw [if_pos g1, if_pos g]
    have e2 : t = lN T.toNat := Int64.toInt.inj (by rw [hT, lN_toInt (by omega)]; omega)
    rw [e2, lN_i, ix192 (by omega), Option.bind_some, Option.bind_some, h.num (by omega)]
  · have g1 : ¬ rg T 0 ((l.length : Int) - 1) = true := by
      unfold rg
      rw [Bool.and_eq_true, decide_eq_true_eq, decide_eq_true_eq]; omega
    rw [if_neg g1, if_neg g, Option.bind_some]
/-- both have the numbers under a mask in order -/
theorem Agr.sorted {α : Type} {R : St → St → Prop} {kc : Int32 × St → Option (Except String α × St)} {km : St → Option (α × St)} (hC : RC n k w C M q σ) (hM : RM n k w C M q J u) (hW : Wf n k w C M) (ht : u.1 0 0 = 0) (hc : c < k) (hm : m < 8) (hk : ∀ p v L, RC n k w C M q p.2 → Pk p.2 L → L.Perm (gl (fun r => C c r != ((-9223372036854775808) : Int64) && M m r) (C c) n) → L.Pairwise (stR false) → RM n k w C M q J v → v.1 0 0 = 0 → Ls v (L.map Prod.snd) → Agr tbl R (kc p) (km v)) : Agr tbl R ((c_X3_gather σ (nI c) (nI m)).bind fun v => (c_X0_putInOrder v (0 : Int32)).bind kc) ((m_X4_lists u (nI c) (nI m)).bind km) := by
  have hs := sorted_wp hC hW hc hm false
  rw [bI_f] at hs
  obtain ⟨p, ep, -, h1, L, h2, h3, h4⟩ := hs
  obtain ⟨v, ev, g1, g2, l, g3, g4, g5⟩ := lists_wp hM hW hc hm ht
  have e := nums_eq h3 h4 g4 g5
  subst e
  have e2 : ((c_X3_gather σ (nI c) (nI m)).bind fun v => (c_X0_putInOrder v (0 : Int32)).bind kc) = kc p := by
    cases hg : c_X3_gather σ (nI c) (nI m) with
    | none => rw [hg] at ep; cases ep
    | some x =>
      rw [hg, Option.bind_some] at ep
      rw [Option.bind_some, ep, Option.bind_some]
  rw [e2, ev, Option.bind_some]
  exact hk p v L h1 h2 h3 h4 g1 g2 g3
end O17
theorem op_kth (I : Ims) (s u : St) (a0 a1 a2 : Int32) (h : Rl I s u) : Agr ["java/lang/IndexOutOfBoundsException"] (Rl I) (c_X3_kth s a0 a1 a2) (m_X4_kth u a0 a1 a2) := by
  obtain ⟨n, k, w, C, M, q, J, hW, hC, hM0, hI⟩ := h
  unfold c_X3_kth m_X4_kth
  have hM : RM n k w C M q J (sI u 0 0 0) := hM0.sI0 (Or.inl rfl)
  have ht : (sI u 0 0 0).1 0 0 = 0 := sIs
  generalize sI u 0 0 0 = u0 at hM ht ⊢
  simp only [needMask_eq, needWord_eq, needImage_eq, needColumn_eq hC hW, needRow_eq hC hW, needWidth_eq, xB_gX, isMask_eq, isWord_eq, isColumn_eq hM hW, isRow_eq hM hW, areIn_eq hM hW, isIn_eq, rg_if, needArgument_eq, needState_eq, Option.bind_some, if_bI, fails_eq, t64, I_m192, I_m62, I_m9, I_0, I_1, I_2, I_3, I_5, I_9, I_16, I_62, I_63, I_64, I_192, I_1000, L_m192, L_m62, L_m9, L_0, L_1, L_2, L_3, L_5, L_9, L_16, L_62, L_63, L_64, L_192, L_1000]
  by_cases h1 : inB a0 k = true
  case neg =>
    rw [Bool.not_eq_true] at h1
    simp only [h1, Bool.false_and, Bool.and_false, Bool.and_self, Bool.true_and, Bool.and_true, Bool.false_eq_true, eq_self, if_true, if_false, reduceIte, ite_self]
    exact Agr.err hW hI 0 rfl rfl rfl sIs hC (hM.sI0 (Or.inl rfl))
  by_cases h2 : inB a1 8 = true
  case neg =>
    rw [Bool.not_eq_true] at h2
    simp only [h1, h2, Bool.false_and, Bool.and_false, Bool.and_self, Bool.true_and, Bool.and_true, Bool.false_eq_true, eq_self, if_true, if_false, reduceIte, ite_self]
    exact Agr.err hW hI 0 rfl rfl rfl sIs hC (hM.sI0 (Or.inl rfl))
  simp only [h1, h2, Bool.false_and, Bool.and_false, Bool.and_self, Bool.true_and, Bool.and_true, Bool.false_eq_true, eq_self, if_true, if_false, reduceIte, ite_self]
  obtain ⟨c, hc, rfl⟩ := inB_ex hW.k31 h1
  obtain ⟨m, hm, rfl⟩ := inB_ex (by decide) h2
  refine Agr.sorted hC hM hW ht hc hm (fun p v L hCp hP _ _ hMv htv hl => ?_)
  have h192 := hP.2.1
  have hll : (L.map Prod.snd).length = L.length := List.length_map ..
  have key : ∀ (x : Int32) (y : Int64), y.toInt = x.toInt → Agr ["java/lang/IndexOutOfBoundsException"] (Rl I) ((c_X0_numberOrNothing p.2 x).bind fun v17 => some (.ok v17, p.2)) ((if rg y.toInt 0 (v.1 0 10 - 1).toInt = true then ((ix ((y).toInt32) 192).bind fun j16 => some (v.2 6 j16)) else some ((-9223372036854775808) : Int64)).bind fun (t12 : Int64) => some (t12, v)) := fun x y e => by
    rw [numOr_eq hP, lstAt_eq hl y _ e]
    exact Agr.ok hW hI rfl rfl htv hCp hMv
  by_cases e : (0 : Int32) ≤ a2
  · rw [if_pos e, if_pos e, Option.bind_some, Option.bind_some]
    exact key _ _ (t64 a2)
  · rw [if_neg e, if_neg e, Option.bind_some, Option.bind_some]
    refine key _ _ ?_
    rw [hP.1, hl.1, hll]
    rw [fa_le] at e
    have h0 : (0 : Int32).toInt = 0 := by decide
    have hb := Int32.le_toInt a2
    have hN : (nI L.length).toInt = L.length := nI_toInt (by omega)
    rw [Int64.toInt_add, Int32.toInt_add, t64, t64, hN]
    rw [Int.bmod_eq_of_le (by omega) (by omega), Int.bmod_eq_of_le (by omega) (by omega)]
/-! how many unlike, which most often -/
def uA (l : List Int64) (i : Nat) : Bool := decide (0 < i) && decide (l.getD i ((-9223372036854775808) : Int64) = l.getD (i - 1) ((-9223372036854775808) : Int64))
def uO (l : List Int64) : Nat → Int32
  | 0 => 0
  | i + 1 => if uA l i = true then uO l i + 1 else 1
def uM (l : List Int64) : Nat → Int32 × Int32 × Int64
  | 0 => (0, 0, ((-9223372036854775808) : Int64))
  | i + 1 => ((uM l i).1 + bI (!uA l i), (if uO l (i + 1) ≤ (uM l i).2.1 then (uM l i).2 else (uO l (i + 1), l.getD i ((-9223372036854775808) : Int64))))
section UNL
variable {l : List Int64} {i : Nat}
theorem uA_c {x : Nat → Int64} (hx : ∀ i, i < l.length → x i = l.getD i ((-9223372036854775808) : Int64)) (hi : i < l.length) (h192 : l.length ≤ 192) : (if nI i ≤ 0 then some (0 : Int32) else ((ix (nI i) 192).bind fun j34 => ((ix (nI i - (1 : Int32)) 192).bind fun j36 => (if x j34 = x j36 then some (1 : Int32) else some (0 : Int32))))) = some (bI (uA l i)) := by
  unfold uA
  cases i with
  | zero => rfl
  | succ j =>
    rw [if_neg (nI_nle (by omega) (by omega)), ix192 (by omega), Option.bind_some, nI_pred, ix192 (by omega), Option.bind_some, s10, hx _ hi, hx j (by omega), decide_eq_true (show 0 < j + 1 by omega)]
    rfl
theorem uA_m {x : Nat → Int64} (hx : ∀ i, i < l.length → x i = l.getD i ((-9223372036854775808) : Int64)) (hi : i < l.length) (h192 : l.length ≤ 192) : (if nI i = 0 then some (1 : Int32) else ((ix (nI i) 192).bind fun j21 => ((ix (nI i - (1 : Int32)) 192).bind fun j23 => (if x j21 = x j23 then some (0 : Int32) else some (1 : Int32))))) = some (bI (!uA l i)) := by
  unfold uA
  cases i with
  | zero => rfl
  | succ j =>
    rw [if_neg (nI_ne0 (by omega) (by omega)), ix192 (by omega), Option.bind_some, nI_pred, ix192 (by omega), Option.bind_some, s01, hx _ hi, hx j (by omega), decide_eq_true (show 0 < j + 1 by omega)]
    rfl
end UNL
