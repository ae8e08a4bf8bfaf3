/-! ===== mask ===== -/
theorem tri3 (p q r : Prop) [Decidable p] [Decidable q] [Decidable r] : (if p then some (0 : Int32) else (if q then some (0 : Int32) else (if r then some (0 : Int32) else some (1 : Int32)))) = some (bI (!decide p && (!decide q && !decide r))) := by
  by_cases h1 : p
  · rw [if_pos h1, decide_eq_true h1]; rfl
  · rw [if_neg h1, decide_eq_false h1]
    by_cases h2 : q
    · rw [if_pos h2, decide_eq_true h2]; rfl
    · rw [if_neg h2, decide_eq_false h2]
      by_cases h3 : r
      · rw [if_pos h3, decide_eq_true h3]; rfl
      · rw [if_neg h3, decide_eq_false h3]; rfl
def mG (a1 a2 a3 : Int32) (r : Int32) (v : St) : Option Int32 := (if a1 = 0 then some (1 : Int32) else (if a1 = (2 : Int32) then ((m_X4_isIn v ((r).toInt64) ((a2).toInt64) (((a3 - (1 : Int32))).toInt64)).bind fun v24 => (if v24 = 0 then (if a1 = (3 : Int32) then (if r < a3 then some (0 : Int32) else (if a2 = 0 then none else (if ((r - a3) - (r - a3) / a2 * a2) = 0 then some (1 : Int32) else some (0 : Int32)))) else some (0 : Int32)) else some (1 : Int32))) else (if a1 = (3 : Int32) then (if r < a3 then some (0 : Int32) else (if a2 = 0 then none else (if ((r - a3) - (r - a3) / a2 * a2) = 0 then some (1 : Int32) else some (0 : Int32)))) else some (0 : Int32))))
theorem mG0 (a2 a3 r : Int32) (v : St) : mG 0 a2 a3 r v = some 1 := rfl
theorem mG1 (a2 a3 r : Int32) (v : St) : mG 1 a2 a3 r v = some 0 := rfl
theorem mG2 {b e i : Nat} (v : St) (hb : b < 2 ^ 30) (he : e < 2 ^ 30) (hi : i < 192) : ∃ t, mG 2 (nI b) (nI e) (nI i) v = some t ∧ nz t = bI (decide (b ≤ i) && decide (i < e)) := by
  unfold mG
  rw [if_neg (by decide), if_pos rfl, isIn_eq, Option.bind_some, if_bI, t64, t64, t64, show (1 : Int32) = nI 1 from rfl, pk_sub_toInt he (by decide), nI_toInt (by omega), nI_toInt (by omega)]
  have : rg (i : Int) (b : Int) ((e : Int) - ((1 : Nat) : Int)) = (decide (b ≤ i) && decide (i < e)) := by
    unfold rg
    rw [Bool.eq_iff_iff, Bool.and_eq_true, Bool.and_eq_true, decide_eq_true_eq, decide_eq_true_eq, decide_eq_true_eq, decide_eq_true_eq]
    omega
  rw [this]
  cases (decide (b ≤ i) && decide (i < e))
  · exact ⟨0, rfl, rfl⟩
  · exact ⟨1, rfl, rfl⟩
theorem mG3 {b t i : Nat} (v : St) (hb : b < 2 ^ 31) (ht : t < 2 ^ 31) (h0 : 0 < t) (hi : i < 192) : ∃ y, mG 3 (nI t) (nI b) (nI i) v = some y ∧ nz y = bI (decide (b ≤ i) && decide ((i - b) % t = 0)) := by
  unfold mG
  rw [if_neg (by decide), if_neg (by decide), if_pos rfl]
  by_cases g : b ≤ i
  · rw [if_neg (fun z => absurd ((nI_ltI (by omega) hb).mp z) (by omega)), decide_eq_true g]
    have hne : ¬ nI t = 0 := fun z => by
      have := congrArg Int32.toInt z
      rw [nI_toInt ht] at this
      have h1 : (0 : Int32).toInt = 0 := rfl
      omega
    have hsub : nI i - nI b = nI (i - b) := by
      apply Int32.toInt_inj.mp
      rw [pk_sub_toInt (by omega) (by omega), nI_toInt (by omega)]
      omega
    rw [if_neg hne, hsub, pk_rem (by omega) h0 ht]
    have hm := Nat.mod_le (i - b) t
    by_cases g2 : (i - b) % t = 0
    · rw [g2, if_pos (show nI 0 = 0 from rfl)]
      exact ⟨1, rfl, rfl⟩
    · have hn2 : ¬ nI ((i - b) % t) = 0 := fun z => by
        have := congrArg Int32.toInt z
        rw [nI_toInt (by omega)] at this
        have h1 : (0 : Int32).toInt = 0 := rfl
        omega
      rw [if_neg hn2, decide_eq_false g2]
      exact ⟨0, rfl, rfl⟩
  · rw [if_pos ((nI_ltI (by omega) hb).mpr (by omega)), decide_eq_false g]
    exact ⟨0, rfl, rfl⟩
theorem canMask2 {n k : Nat} {w : Nat → Nat} {C : Nat → Nat → Int64} {M : Nat → Nat → Bool} {q : Int32} {u J s : St} (hW : Wf n k w C M) (hC : RC n k w C M q s) (hM : RM n k w C M q J u) (a2 a3 : Int32) : m_X4_canMask u 2 a2 a3 = some (bI (!decide (a2 < 0) && (!decide (a3 < a2) && !decide (s.1 1 0 < a3)))) := by
  have hn := hW.hn
  unfold m_X4_canMask
  rw [if_neg (by decide), if_neg (by decide), if_pos rfl, isIn_eq, Option.bind_some, if_bI, t64, t64, hM.rows, hC.rows, nI_toInt (by omega)]
  have z0 : (0 : Int64).toInt = 0 := rfl
  have z1 : (0 : Int32).toInt = 0 := rfl
  have e : (rg a2.toInt 0 n && rg a3.toInt a2.toInt n) = (!decide (a2 < 0) && (!decide (a3 < a2) && !decide (nI n < a3))) := by
    unfold rg
    rw [Bool.eq_iff_iff]
    simp only [Bool.and_eq_true, Bool.not_eq_true', decide_eq_true_eq, decide_eq_false_iff_not, fa_lt, nI_toInt (show n < 2 ^ 31 by omega), z1]
    omega
  rw [← e, z0]
  cases g : rg a2.toInt 0 n
  · rfl
  · rw [if_pos rfl, isIn_eq, Option.bind_some, if_bI, t64, t64, t64, nI_toInt (by omega)]
    cases rg a3.toInt a2.toInt n <;> rfl
theorem canMask3 (u : St) (a2 a3 : Int32) : m_X4_canMask u 3 a2 a3 = some (bI (!decide (a2 < 1) && (!decide (a3 < 0) && !decide (a2 ≤ a3)))) := by
  unfold m_X4_canMask
  rw [if_neg (by decide), if_neg (by decide), if_neg (by decide), if_pos rfl]
  have z0 : (0 : Int64).toInt = 0 := rfl
  have z1 : (0 : Int32).toInt = 0 := rfl
  have z2 : (1 : Int32).toInt = 1 := rfl
  by_cases g : a2 ≤ 0
  · rw [if_pos g, decide_eq_true (show a2 < 1 by rw [fa_lt, z2]; rw [fa_le, z1] at g; omega)]
    rfl
  · have g' : ¬ a2.toInt ≤ 0 := fun z => g (by rw [fa_le, z1]; exact z)
    have hb := Int32.toInt_lt a2
    rw [if_neg g, isIn_eq, Option.bind_some, if_bI, t64, t64, z0]
    have es : (a2 - 1).toInt = a2.toInt - 1 := by
      rw [Int32.toInt_sub, z2, fb_bmod (by omega) (by omega)]
    have e : rg a3.toInt 0 (a2 - 1).toInt = (!decide (a2 < 1) && (!decide (a3 < 0) && !decide (a2 ≤ a3))) := by
      unfold rg
      rw [Bool.eq_iff_iff]
      simp only [Bool.and_eq_true, Bool.not_eq_true', decide_eq_true_eq, decide_eq_false_iff_not, fa_lt, fa_le, z1, z2, es]
      omega
    rw [e]
    cases (!decide (a2 < 1) && (!decide (a3 < 0) && !decide (a2 ≤ a3))) <;> rfl
theorem ofPos {a : Int32} (h : 0 ≤ a.toInt) : ∃ j, j < 2 ^ 31 ∧ a = nI j := by
  have hb := Int32.toInt_lt a
  refine ⟨a.toInt.toNat, by omega, ?_⟩
  apply Int32.toInt_inj.mp
  rw [nI_toInt (by omega)]
  omega
theorem op_mask (I : Ims) (s u : St) (a0 a1 a2 a3 : Int32) (h : Rl I s u) : Agr ["java/lang/IndexOutOfBoundsException", "java/lang/IllegalArgumentException"] (Rl I) (c_X3_mask s a0 a1 a2 a3) (m_X4_mask u a0 a1 a2 a3) := by
  obtain ⟨n, k, w, C, M, q, J, hW, hC, hM0, hI⟩ := h
  unfold c_X3_mask m_X4_mask
  have hM : RM n k w C M q J (sI u 0 0 0) := hM0.sI0 (Or.inl rfl)
  have ht : (sI u 0 0 0).1 0 0 = 0 := sIs
  generalize sI u 0 0 0 = u0 at hM ht ⊢
  have hn := hW.hn
  rw [needMask_eq, xB_gX, isMask_eq, Option.bind_some, if_bI]
  by_cases h1 : inB a0 8 = true
  case neg =>
    rw [if_neg h1, if_neg h1]
    exact Agr.err hW hI 0 rfl rfl rfl sIs hC (hM.sI0 (Or.inl rfl))
  rw [if_pos h1, if_pos h1]
  obtain ⟨m, hm, rfl⟩ := inB_ex (by decide) h1
  rw [rg_if a1 0 3, Option.bind_some, needArgument_eq, xB_gX]
  by_cases g1 : rg a1.toInt (0 : Int32).toInt (3 : Int32).toInt = true
  case neg =>
    have ec : m_X4_canMask u0 a1 a2 a3 = some 0 := by
      unfold m_X4_canMask
      rw [if_neg (fun z => g1 (by subst z; rfl)), if_neg (fun z => g1 (by subst z; rfl)), if_neg (fun z => g1 (by subst z; rfl)), if_neg (fun z => g1 (by subst z; rfl))]
      rfl
    rw [if_neg g1, ec, Option.bind_some, if_pos rfl]
    exact Agr.err hW hI 1 rfl rfl rfl sIs hC (hM.sI0 (Or.inl rfl))
  rw [if_pos g1]
  have h4 : a1 = 0 ∨ a1 = 1 ∨ a1 = 2 ∨ a1 = 3 := by
    have g2 : inB a1 4 = true := by
      unfold rg at g1
      unfold inB
      have z0 : (0 : Int32).toInt = 0 := rfl
      have z3 : (3 : Int32).toInt = 3 := rfl
      rw [z0, z3, Bool.and_eq_true, decide_eq_true_eq, decide_eq_true_eq] at g1
      rw [Bool.and_eq_true, decide_eq_true_eq, decide_eq_true_eq]
      omega
    obtain ⟨j, hj, rfl⟩ := inB_ex (by decide) g2
    match j, hj with
    | 0, _ => exact Or.inl rfl
    | 1, _ => exact Or.inr (Or.inl rfl)
    | 2, _ => exact Or.inr (Or.inr (Or.inl rfl))
    | 3, _ => exact Or.inr (Or.inr (Or.inr rfl))
  have n1 : ∀ σ, c_X3_needArgument σ 1 = some (gX true "java/lang/IllegalArgumentException", σ) := fun σ => needArgument_eq σ true
  have hC2 : RC n k w C M q (fL s 26 0 (fun _ => 0) 3) := hC.oc (i := 26) (by decide) fL_oc
  rcases h4 with rfl | rfl | rfl | rfl
  · rw [if_neg (show ¬ (0 : Int32) = 2 by decide), Option.bind_some, n1, xB_gX, if_pos rfl, if_neg (show ¬ (0 : Int32) = 3 by decide), Option.bind_some, n1, xB_gX, if_pos rfl, begin_eq, Option.bind_some, if_pos rfl, show m_X4_canMask u0 0 a2 a3 = some 1 from rfl, Option.bind_some, if_neg (show ¬ (1 : Int32) = 0 by decide)]
    rw [hC2.rows]
    have hc : wp (c_X3_includeEach (fL s 26 0 (fun _ => 0) 3) 1 0 (nI n)) _ := each_wp (t := 1) (b := 0) (e := n) hW hC2 Mk_begin (by decide) (by decide) (by decide) (Nat.le_refl n)
    refine mask_fin hW hI hM ht hm (fun _ => true) (wp_bm hc (fun τ hτ => wp_some ⟨hτ.1, fun r hr => ?_⟩)) (mG 0 a2 a3) (fun i u' hi _ => ⟨1, rfl, rfl⟩)
    rw [hτ.2 r hr]
    show evr 0 1 n r = (decide (r < n) && true)
    rw [Bool.eq_iff_iff, evr_iff, Bool.and_true, decide_eq_true_eq]
    have := Nat.mod_one (r - 0)
    omega
  · rw [show m_X4_canMask u0 1 a2 a3 = some 1 from rfl, Option.bind_some, if_neg (show ¬ (1 : Int32) = 0 by decide), if_neg (show ¬ (1 : Int32) = 2 by decide), Option.bind_some, n1, xB_gX, if_pos rfl, if_neg (show ¬ (1 : Int32) = 3 by decide), Option.bind_some, n1, xB_gX, if_pos rfl, begin_eq, Option.bind_some, if_neg (show ¬ (1 : Int32) = 0 by decide), if_neg (show ¬ (1 : Int32) = 2 by decide), if_neg (show ¬ (1 : Int32) = 3 by decide)]
    exact mask_fin hW hI hM ht hm (fun _ => false) (wp_some ⟨hC2, fun r hr => by rw [Mk_begin r hr]; exact (Bool.and_false _).symm⟩) (mG 1 a2 a3) (fun i u' hi _ => ⟨0, rfl, rfl⟩)
  · rw [if_pos rfl, tri3, Option.bind_some, needArgument_eq, xB_gX, canMask2 hW hC hM, Option.bind_some, if_bI]
    by_cases g2 : (!decide (a2 < 0) && (!decide (a3 < a2) && !decide (s.1 1 0 < a3))) = true
    case neg =>
      rw [if_neg g2, if_neg g2]
      exact Agr.err hW hI 1 rfl rfl rfl sIs hC (hM.sI0 (Or.inl rfl))
    rw [if_pos g2, if_pos g2, if_neg (show ¬ (2 : Int32) = 3 by decide), Option.bind_some, n1, xB_gX, if_pos rfl, begin_eq, Option.bind_some, if_neg (show ¬ (2 : Int32) = 0 by decide), if_pos rfl]
    have z1 : (0 : Int32).toInt = 0 := rfl
    simp only [Bool.and_eq_true, Bool.not_eq_true', decide_eq_false_iff_not, fa_lt, hC.rows, nI_toInt (show n < 2 ^ 31 by omega), z1] at g2
    obtain ⟨b, hb, rfl⟩ := ofPos (a := a2) (by omega)
    obtain ⟨e, he, rfl⟩ := ofPos (a := a3) (by omega)
    rw [nI_toInt hb, nI_toInt he] at g2
    have hc : wp (c_X3_includeEach (fL s 26 0 (fun _ => 0) 3) 1 (nI b) (nI e)) _ := each_wp (t := 1) (b := b) (e := e) hW hC2 Mk_begin (by decide) (by decide) hb (by omega)
    refine mask_fin hW hI hM ht hm (fun r => decide (b ≤ r) && decide (r < e)) (wp_bm hc (fun τ hτ => wp_some ⟨hτ.1, fun r hr => ?_⟩)) (mG 2 (nI b) (nI e)) (fun i u' hi _ => mG2 u' (by omega) (by omega) hi)
    rw [hτ.2 r hr, Bool.eq_iff_iff, evr_iff, Bool.and_eq_true, Bool.and_eq_true, decide_eq_true_eq, decide_eq_true_eq, decide_eq_true_eq]
    have := Nat.mod_one (r - b)
    omega
  · rw [if_neg (show ¬ (3 : Int32) = 2 by decide), Option.bind_some, n1, xB_gX, if_pos rfl, if_pos rfl, tri3, Option.bind_some, needArgument_eq, xB_gX, canMask3, Option.bind_some, if_bI]
    by_cases g2 : (!decide (a2 < 1) && (!decide (a3 < 0) && !decide (a2 ≤ a3))) = true
    case neg =>
      rw [if_neg g2, if_neg g2]
      exact Agr.err hW hI 1 rfl rfl rfl sIs hC (hM.sI0 (Or.inl rfl))
    rw [if_pos g2, if_pos g2, begin_eq, Option.bind_some, if_neg (show ¬ (3 : Int32) = 0 by decide), if_neg (show ¬ (3 : Int32) = 2 by decide), if_pos rfl, hC2.rows]
    have z1 : (0 : Int32).toInt = 0 := rfl
    have z2 : (1 : Int32).toInt = 1 := rfl
    simp only [Bool.and_eq_true, Bool.not_eq_true', decide_eq_false_iff_not, fa_lt, fa_le, z1, z2] at g2
    obtain ⟨t, htt, rfl⟩ := ofPos (a := a2) (by omega)
    obtain ⟨b, hb, rfl⟩ := ofPos (a := a3) (by omega)
    rw [nI_toInt htt, nI_toInt hb] at g2
    have hc : wp (c_X3_includeEach (fL s 26 0 (fun _ => 0) 3) (nI t) (nI b) (nI n)) _ := each_wp (t := t) (b := b) (e := n) hW hC2 Mk_begin (by omega) htt hb (Nat.le_refl n)
    refine mask_fin hW hI hM ht hm (fun r => decide (b ≤ r) && decide ((r - b) % t = 0)) (wp_bm hc (fun τ hτ => wp_some ⟨hτ.1, fun r hr => ?_⟩)) (mG 3 (nI t) (nI b)) (fun i u' hi _ => mG3 u' hb htt (by omega) hi)
    exact hτ.2 r hr
