def layB : Nat → Nat × Nat := fun i => match i with | 0 => (3, 1) | 1 => (1, 6) | 2 => (4, 6) | 3 => (0, 192) | 4 => (0, 192) | 5 => (0, 192) | 6 => (0, 192) | 7 => (0, 192) | 8 => (0, 192) | 9 => (4, 8) | 10 => (0, 3) | 11 => (0, 3) | 12 => (0, 3) | 13 => (0, 3) | 14 => (0, 3) | 15 => (0, 3) | 16 => (0, 3) | 17 => (0, 3) | 18 => (3, 1) | 19 => (1, 6) | 20 => (4, 6) | 21 => (0, 192) | 22 => (0, 192) | 23 => (0, 192) | 24 => (0, 192) | 25 => (0, 192) | 26 => (0, 192) | 27 => (4, 8) | 28 => (0, 3) | 29 => (0, 3) | 30 => (0, 3) | 31 => (0, 3) | 32 => (0, 3) | 33 => (0, 3) | 34 => (0, 3) | 35 => (0, 3) | _ => (9, 0)
def fldB : Nat → List (Option Nat) := fun i => match i with | 0 => [none, none, some 1, some 2, some 9] | 18 => [none, none, some 19, some 20, some 27] | _ => []
def bsB : Nat → Nat := fun i => match i with | 2 => 3 | 9 => 10 | 20 => 21 | 27 => 28 | _ => 0
abbrev YB : Ly := (36, layB, fldB, bsB)
abbrev YT : Ly := (18, layB, fldB, bsB)
theorem rowB0 {j : Nat} (h : j < 6) : layB (3 + j) = (0, 192) := by
  match j, h with
  | 0, _ => rfl
  | 1, _ => rfl
  | 2, _ => rfl
  | 3, _ => rfl
  | 4, _ => rfl
  | 5, _ => rfl
theorem rowB0' {j : Nat} (h : j < 6) : 3 + j < 36 := by omega
theorem mskB0 {j : Nat} (h : j < 8) : layB (10 + j) = (0, 3) := by
  match j, h with
  | 0, _ => rfl
  | 1, _ => rfl
  | 2, _ => rfl
  | 3, _ => rfl
  | 4, _ => rfl
  | 5, _ => rfl
  | 6, _ => rfl
  | 7, _ => rfl
theorem mskB0' {j : Nat} (h : j < 8) : 10 + j < 36 := by omega
theorem rowB1 {j : Nat} (h : j < 6) : layB (21 + j) = (0, 192) := by
  match j, h with
  | 0, _ => rfl
  | 1, _ => rfl
  | 2, _ => rfl
  | 3, _ => rfl
  | 4, _ => rfl
  | 5, _ => rfl
theorem rowB1' {j : Nat} (h : j < 6) : 21 + j < 36 := by omega
theorem mskB1 {j : Nat} (h : j < 8) : layB (28 + j) = (0, 3) := by
  match j, h with
  | 0, _ => rfl
  | 1, _ => rfl
  | 2, _ => rfl
  | 3, _ => rfl
  | 4, _ => rfl
  | 5, _ => rfl
  | 6, _ => rfl
  | 7, _ => rfl
theorem mskB1' {j : Nat} (h : j < 8) : 28 + j < 36 := by omega
set_option maxRecDepth 100000 in
def c_X1_becomeLike (σ : St) : Option (St) :=
  ((cpn (6 : Int32) 6 6).bind fun k1 => ((lp 5000 (fun (s3 : Int32 × St) => (if (6 : Int32) ≤ s3.1 then some (.inr s3.2) else ((ix s3.1 6).bind fun j11 => ((ix s3.1 6).bind fun j13 => ((cpn (192 : Int32) 192 192).bind fun k15 => some (.inl ((s3.1 + 1), (cpL s3.2 (21 + j11) (3 + j13) k15)))))))) ((0 : Int32), (cpI (sI (sI σ 0 0 (σ.1 18 0)) 0 1 ((sI σ 0 0 (σ.1 18 0)).1 18 1)) 19 1 k1))).bind fun (r4 : St) => ((lp 5000 (fun (s17 : Int32 × St) => (if (8 : Int32) ≤ s17.1 then some (.inr s17.2) else ((ix s17.1 8).bind fun j25 => ((ix s17.1 8).bind fun j27 => ((cpn (3 : Int32) 3 3).bind fun k29 => some (.inl ((s17.1 + 1), (cpL s17.2 (28 + j25) (10 + j27) k29)))))))) ((0 : Int32), r4)).bind fun (r18 : St) => some r18)))
set_option maxHeartbeats 4000000 in
set_option maxRecDepth 100000 in
theorem t_X1_becomeLike (l : Launch) (hnt : l.stackTraces = false) {E : Ev} {base : Nat} (hE : Adr YB E base) (σ : St) (r : St) (h : c_X1_becomeLike σ = some r) : Ctr l yX1_becomeLike cX1_becomeLike 3 none 1 60 YB E base [.ref (E.2.2 0), .ref (E.2.2 18)] σ (.ok none) r := by
  unfold c_X1_becomeLike at h
  refine ofV 1 (by decide +kernel) rfl hE hnt (Nat.le_of_ble_eq_true rfl) rfl (fun M hN K => ?_)
  refine v_aload0 (pc := 0) K dX1_becomeLike_0 ?_
  refine v_aload1 (pc := 1) K dX1_becomeLike_1 ?_
  refine v_getI (pc := 2) K fl_RX1_23 dX1_becomeLike_2 (Nat.le_of_ble_eq_true rfl) rfl rfl ?_
  refine v_put (pc := 5) K fw_RX1_23 dX1_becomeLike_5 rfl rfl (Nat.le_of_ble_eq_true rfl) rfl rfl ?_
  refine v_aload0 (pc := 8) K dX1_becomeLike_8 ?_
  refine v_aload1 (pc := 9) K dX1_becomeLike_9 ?_
  refine v_getI (pc := 10) K fl_RX1_27 dX1_becomeLike_10 (Nat.le_of_ble_eq_true rfl) rfl rfl ?_
  refine v_put (pc := 13) K fw_RX1_27 dX1_becomeLike_13 rfl rfl (Nat.le_of_ble_eq_true rfl) rfl rfl ?_
  refine v_aload1 (pc := 16) K dX1_becomeLike_16 ?_
  refine v_getR (pc := 17) K fl_RX1_9 dX1_becomeLike_17 (Nat.le_of_ble_eq_true rfl) rfl rfl ?_
  refine v_ic0 (pc := 20) K dX1_becomeLike_20 ?_
  refine v_aload0 (pc := 21) K dX1_becomeLike_21 ?_
  refine v_getR (pc := 22) K fl_RX1_9 dX1_becomeLike_22 (Nat.le_of_ble_eq_true rfl) rfl rfl ?_
  refine v_ic0 (pc := 25) K dX1_becomeLike_25 ?_
  refine v_bipush (pc := 26) (v := 6) K dX1_becomeLike_26 (by decide) ?_
  obtain ⟨k1, h2, h⟩ := bd h
  refine v_copyI (pc := 28) K ac_RX1_30 dX1_becomeLike_28 (Nat.le_of_ble_eq_true rfl) rfl (Nat.le_of_ble_eq_true rfl) rfl h2 (by decide) (Nat.le_trans nat_words (by decide)) ?_
  refine v_ic0 (pc := 31) K dX1_becomeLike_31 ?_
  refine v_istore2 (pc := 32) K dX1_becomeLike_32 rfl (Nat.le_of_ble_eq_true rfl) ?_
  obtain ⟨r4, h6, h⟩ := bd h
  have hJ5 : V (mkX M YB E base 3 (.ok none) r) r4 65 [some (.ref (E.2.2 0)), some (.ref (E.2.2 18)), none] [] := by
    refine v_ic0 (pc := 65) K dX1_becomeLike_65 ?_
    refine v_istore2 (pc := 66) K dX1_becomeLike_66 rfl (Nat.le_of_ble_eq_true rfl) ?_
    obtain ⟨r18, h20, h⟩ := bd h
    have hJ19 : V (mkX M YB E base 3 (.ok none) r) r18 97 [none, none, none] [] := by
      cases h
      exact v_vret (pc := 97) K dX1_becomeLike_97 rfl rfl
    clear h
    have hL31 := lpv h20 (fun s17 : Int32 × St => V (mkX M YB E base 3 (.ok none) r) s17.2 67 [some (.ref (E.2.2 0)), some (.ref (E.2.2 18)), some (.int s17.1)] [])
    refine hL31 (fun s17 o h hk => ?_)
    refine v_iload2 (pc := 67) K dX1_becomeLike_67 ?_
    refine v_bipush (pc := 68) (v := 8) K dX1_becomeLike_68 (by decide) ?_
    refine v_icmp_ge (pc := 70) (tgt := 97) K dX1_becomeLike_70 (by decide) (fun c24 => ?_) (fun c24 => ?_)
    · have h := it c24 h
      have e := lx h hk
      cases e
      exact v_fg [false, false, false] hJ19
    · have h := ie c24 h
      refine v_aload1 (pc := 73) K dX1_becomeLike_73 ?_
      refine v_getR (pc := 74) K fl_RX1_20 dX1_becomeLike_74 (Nat.le_of_ble_eq_true rfl) rfl rfl ?_
      refine v_iload2 (pc := 77) K dX1_becomeLike_77 ?_
      obtain ⟨j25, h26, h⟩ := bd h
      refine v_aal (pc := 78) (b := 28) K dX1_becomeLike_78 (Nat.le_of_ble_eq_true rfl) rfl rfl h26 ?_
      refine v_ic0 (pc := 79) K dX1_becomeLike_79 ?_
      refine v_aload0 (pc := 80) K dX1_becomeLike_80 ?_
      refine v_getR (pc := 81) K fl_RX1_20 dX1_becomeLike_81 (Nat.le_of_ble_eq_true rfl) rfl rfl ?_
      refine v_iload2 (pc := 84) K dX1_becomeLike_84 ?_
      obtain ⟨j27, h28, h⟩ := bd h
      refine v_aal (pc := 85) (b := 10) K dX1_becomeLike_85 (Nat.le_of_ble_eq_true rfl) rfl rfl h28 ?_
      refine v_ic0 (pc := 86) K dX1_becomeLike_86 ?_
      refine v_ic3 (pc := 87) K dX1_becomeLike_87 ?_
      obtain ⟨k29, h30, h⟩ := bd h
      refine v_copyL (pc := 88) K ac_RX1_30 dX1_becomeLike_88 (mskB1' (ix_lt h26)) (mskB1 (ix_lt h26)) (mskB0' (ix_lt h28)) (mskB0 (ix_lt h28)) h30 (by decide) (Nat.le_trans nat_words (by decide)) ?_
      refine v_iinc2 (pc := 91) (w := 1) K dX1_becomeLike_91 rfl (Nat.le_of_ble_eq_true rfl) (by decide) ?_
      refine v_goto (pc := 94) (tgt := 67) K dX1_becomeLike_94 (by decide) ?_
      have e := lfc h hk
      exact e
  clear h
  have hL32 := lpv h6 (fun s3 : Int32 × St => V (mkX M YB E base 3 (.ok none) r) s3.2 33 [some (.ref (E.2.2 0)), some (.ref (E.2.2 18)), some (.int s3.1)] [])
  refine hL32 (fun s3 o h hk => ?_)
  refine v_iload2 (pc := 33) K dX1_becomeLike_33 ?_
  refine v_bipush (pc := 34) (v := 6) K dX1_becomeLike_34 (by decide) ?_
  refine v_icmp_ge (pc := 36) (tgt := 65) K dX1_becomeLike_36 (by decide) (fun c10 => ?_) (fun c10 => ?_)
  · have h := it c10 h
    have e := lx h hk
    cases e
    exact v_fg [true, true, false] hJ5
  · have h := ie c10 h
    refine v_aload1 (pc := 39) K dX1_becomeLike_39 ?_
    refine v_getR (pc := 40) K fl_RX1_17 dX1_becomeLike_40 (Nat.le_of_ble_eq_true rfl) rfl rfl ?_
    refine v_iload2 (pc := 43) K dX1_becomeLike_43 ?_
    obtain ⟨j11, h12, h⟩ := bd h
    refine v_aal (pc := 44) (b := 21) K dX1_becomeLike_44 (Nat.le_of_ble_eq_true rfl) rfl rfl h12 ?_
    refine v_ic0 (pc := 45) K dX1_becomeLike_45 ?_
    refine v_aload0 (pc := 46) K dX1_becomeLike_46 ?_
    refine v_getR (pc := 47) K fl_RX1_17 dX1_becomeLike_47 (Nat.le_of_ble_eq_true rfl) rfl rfl ?_
    refine v_iload2 (pc := 50) K dX1_becomeLike_50 ?_
    obtain ⟨j13, h14, h⟩ := bd h
    refine v_aal (pc := 51) (b := 3) K dX1_becomeLike_51 (Nat.le_of_ble_eq_true rfl) rfl rfl h14 ?_
    refine v_ic0 (pc := 52) K dX1_becomeLike_52 ?_
    refine v_sipush (pc := 53) (v := 192) K dX1_becomeLike_53 (by decide) ?_
    obtain ⟨k15, h16, h⟩ := bd h
    refine v_copyL (pc := 56) K ac_RX1_30 dX1_becomeLike_56 (rowB1' (ix_lt h12)) (rowB1 (ix_lt h12)) (rowB0' (ix_lt h14)) (rowB0 (ix_lt h14)) h16 (by decide) (Nat.le_trans nat_words (by decide)) ?_
    refine v_iinc2 (pc := 59) (w := 1) K dX1_becomeLike_59 rfl (Nat.le_of_ble_eq_true rfl) (by decide) ?_
    refine v_goto (pc := 62) (tgt := 33) K dX1_becomeLike_62 (by decide) ?_
    have e := lfc h hk
    exact e
/-! loops, purely -/
theorem lp_up {S R : Type} {f : S → Option (S ⊕ R)} (g : Nat → S) (n : Nat) (r : R) (hs : ∀ i, i < n → f (g i) = some (.inl (g (i + 1)))) (hx : f (g n) = some (.inr r)) : ∀ (fuel m : Nat), m ≤ n → n - m < fuel → lp fuel f (g m) = some r
  | 0, m, _, h => absurd h (by omega)
  | fuel + 1, m, hm, h => by
    unfold lp
    by_cases e : m = n
    · subst e
      rw [hx]
    · rw [hs m (by omega)]
      exact lp_up g n r hs hx fuel (m + 1) (by omega) (by omega)
theorem lp_inv {S R : Type} {f : S → Option (S ⊕ R)} (I : Nat → S → Prop) (P : R → Prop) (n : Nat) (hs : ∀ i s, i < n → I i s → (∃ s', f s = some (.inl s') ∧ I (i + 1) s') ∨ ∃ r, f s = some (.inr r) ∧ P r) (hx : ∀ s, I n s → ∃ r, f s = some (.inr r) ∧ P r) : ∀ (fuel m : Nat) (s : S), m ≤ n → n - m < fuel → I m s → ∃ r, lp fuel f s = some r ∧ P r
  | 0, m, _, _, h, _ => absurd h (by omega)
  | fuel + 1, m, s, hm, h, hI => by
    unfold lp
    by_cases e : m = n
    · subst e
      obtain ⟨r, h1, h2⟩ := hx s hI
      rw [h1]
      exact ⟨r, rfl, h2⟩
    · rcases hs m s (by omega) hI with ⟨s', h1, h2⟩ | ⟨r, h1, h2⟩
      · rw [h1]
        exact lp_inv I P n hs hx fuel (m + 1) s' (by omega) (by omega) h2
      · rw [h1]
        exact ⟨r, rfl, h2⟩
theorem ix_nI {j n : Nat} (h : j < n) (hn : n < 2 ^ 31) : ix (nI j) n = some j := by
  unfold ix
  rw [if_neg (nI_in h hn), nI_clamp (Nat.lt_trans h hn)]
