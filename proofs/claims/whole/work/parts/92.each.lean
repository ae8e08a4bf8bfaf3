/-! ===== rows at a stride ===== -/
section EACH
variable {n k : Nat} {w : Nat → Nat} {C : Nat → Nat → Int64} {M : Nat → Nat → Bool} {q : Int32} {σ u J : St} {c d m e b t : Nat} {I : Ims} {tbl : List String}
def evr (b t e : Nat) (r : Nat) : Bool := decide (r < e) && (decide (b ≤ r) && decide ((r - b) % t = 0))
theorem evr_iff {b t e r : Nat} : evr b t e r = true ↔ r < e ∧ b ≤ r ∧ (r - b) % t = 0 := by
  unfold evr
  rw [Bool.and_eq_true, Bool.and_eq_true, decide_eq_true_eq, decide_eq_true_eq, decide_eq_true_eq]
theorem nI_plus (x y : Nat) : nI x + nI y = nI (x + y) := by
  unfold nI
  exact (Int32.ofNat_add x y).symm
theorem evr_next {b s x r : Nat} (hb : b ≤ x) (hx : (x - b) % s = 0) (hs : 0 < s) : evr b s (x + s) r = (evr b s x r || decide (r = x)) := by
  rw [Bool.eq_iff_iff, Bool.or_eq_true, evr_iff, evr_iff, decide_eq_true_eq]
  constructor
  · rintro ⟨h1, h2, h3⟩
    by_cases g : r < x
    · exact Or.inl ⟨g, h2, h3⟩
    · right
      have d : s ∣ (r - b) - (x - b) := Nat.dvd_sub (Nat.dvd_of_mod_eq_zero h3) (Nat.dvd_of_mod_eq_zero hx)
      have := Nat.eq_zero_of_dvd_of_lt d (by omega)
      omega
  · rintro (⟨h1, h2, h3⟩ | rfl)
    · exact ⟨by omega, h2, h3⟩
    · exact ⟨by omega, hb, hx⟩
theorem evr_cut {b t e : Nat} (he : e ≤ 192) (ht : 0 < t) (r : Nat) : evr b (if 192 < t then 192 else t) e r = evr b t e r := by
  by_cases g : 192 < t
  · rw [if_pos g, Bool.eq_iff_iff, evr_iff, evr_iff]
    constructor
    · rintro ⟨h1, h2, h3⟩
      rw [Nat.mod_eq_of_lt (by omega)] at h3
      exact ⟨h1, h2, by rw [h3, Nat.zero_mod]⟩
    · rintro ⟨h1, h2, h3⟩
      rw [Nat.mod_eq_of_lt (by omega)] at h3
      exact ⟨h1, h2, by rw [h3]⟩
  · rw [if_neg g]
theorem each_wp (hW : Wf n k w C M) (hC : RC n k w C M q σ) (h0 : Mk σ (fun _ => false)) (ht : 0 < t) (ht2 : t < 2 ^ 31) (hb : b < 2 ^ 31) (he : e ≤ n) : wp (c_X3_includeEach σ (nI t) (nI b) (nI e)) (fun τ => RC n k w C M q τ ∧ Mk τ (evr b t e)) := by
  have hn := hW.hn
  unfold c_X3_includeEach
  have emin : c_J9_min_7cf53 σ (nI t) 192 = some (nI (if 192 < t then 192 else t)) := by
    unfold c_J9_min_7cf53
    by_cases g : 192 < t
    · rw [if_pos g, if_pos (show (192 : Int32) < nI t from (nI_ltI (a := 192) (by decide) ht2).mpr g)]; rfl
    · rw [if_neg g, if_neg (show ¬ (192 : Int32) < nI t from fun z => g ((nI_ltI (a := 192) (by decide) ht2).mp z))]; rfl
  rw [emin, Option.bind_some]
  have cut := fun r => evr_cut (b := b) (t := t) (e := e) (by omega) ht r
  generalize hs : (if 192 < t then 192 else t) = s at cut ⊢
  have hs1 : 0 < s := by rw [← hs]; split <;> omega
  have hs2 : s ≤ 192 := by rw [← hs]; split <;> omega
  have emax : c_J9_max_7cf53 σ 1 (nI s) = some (nI s) := by
    unfold c_J9_max_7cf53
    by_cases g : 1 < s
    · rw [if_pos (show (1 : Int32) < nI s from (nI_ltI (a := 1) (by decide) (by omega)).mpr g)]; rfl
    · rw [if_neg (show ¬ (1 : Int32) < nI s from fun z => g ((nI_ltI (a := 1) (by decide) (by omega)).mp z))]
      have e1 : s = 1 := by omega
      rw [e1]; rfl
  rw [emax, Option.bind_some]
  have hend : ∀ x τ, e ≤ x → x < 2 ^ 31 → RC n k w C M q τ → Mk τ (evr b s x) → (∀ r, evr b s x r = true → r < e) → Mk τ (evr b t e) := fun x τ hx _ _ h1 h2 r hr => by
    rw [h1 r hr, ← cut r, Bool.eq_iff_iff]
    constructor
    · intro h3
      have h4 := evr_iff.mp h3
      exact evr_iff.mpr ⟨h2 r h3, h4.2⟩
    · intro h3
      have h4 := evr_iff.mp h3
      exact evr_iff.mpr ⟨by omega, h4.2⟩
  have hst : ∀ r, evr b s b r = false := fun r => by
    cases g : evr b s b r
    · rfl
    · have := evr_iff.mp g; omega
  have hmk : Mk σ (evr b s b) := fun r hr => by rw [h0 r hr, hst r]
  have hno : ∀ r, evr b s b r = true → r < e := fun r g => by rw [hst r] at g; cases g
  by_cases hbe : e ≤ b
  · rw [show lp 5000 (fun (s3 : Int32 × St) => (if nI e ≤ s3.1 then some (.inr s3.2) else ((c_X3_include s3.2 s3.1).bind fun v11 => some (.inl ((s3.1 + nI s), v11))))) (nI b, σ) = some σ from lp_out (if_pos (nI_le hbe hb)), Option.bind_some]
    exact wp_some ⟨hC, hend b σ hbe hb hC hmk hno⟩
  refine wp_bm (P := fun τ => RC n k w C M q τ ∧ Mk τ (evr b t e)) (wp_lp (e - b) (fun i (z : Int32 × St) => ∃ x, z.1 = nI x ∧ b + i ≤ x ∧ x < e + 192 ∧ (x - b) % s = 0 ∧ RC n k w C M q z.2 ∧ Mk z.2 (evr b s x) ∧ ∀ r, evr b s x r = true → r < e) (by omega) ⟨b, rfl, by omega, by omega, by rw [Nat.sub_self, Nat.zero_mod], hC, hmk, hno⟩ (fun i z hi hJ => ?_) (fun z hJ => ?_)) (fun τ hτ => wp_some hτ)
  · obtain ⟨z1, τ⟩ := z
    obtain ⟨x, e1, h1, h2, h3, h4, h5, h6⟩ := hJ
    simp only at e1 h4 h5
    subst e1
    by_cases g : e ≤ x
    · exact wp_eq (if_pos (nI_le g (by omega))) ⟨h4, hend x τ g (by omega) h4 h5 h6⟩
    · have es : (if nI e ≤ nI x then some (Sum.inr τ) else ((c_X3_include τ (nI x)).bind fun v11 => some (Sum.inl ((nI x + nI s), v11)))) = (some (Sum.inl (nI x + nI s, inc τ x)) : Option ((Int32 × St) ⊕ St)) := by
        rw [if_neg (ltL e (by omega) (show x < e by omega)), include_eq h4 hW (show x < n by omega), Option.bind_some]
      refine wp_eq es ⟨x + s, nI_plus x s, by omega, by omega, ?_, h4.oc (i := 26) (by decide) inc_oc, ?_, ?_⟩
      · rw [show x + s - b = x - b + s by omega, Nat.add_mod_right]; exact h3
      · intro r hr
        rw [(h5.put (show x < 192 by omega)) r hr, evr_next (by omega) h3 hs1]
      · intro r hr
        rw [evr_next (by omega) h3 hs1, Bool.or_eq_true, decide_eq_true_eq] at hr
        rcases hr with hr | hr
        · exact h6 r hr
        · omega
  · obtain ⟨z1, τ⟩ := z
    obtain ⟨x, e1, h1, h2, h3, h4, h5, h6⟩ := hJ
    simp only at e1 h4 h5
    subst e1
    exact wp_eq (if_pos (nI_le (show e ≤ x by omega) (by omega))) ⟨h4, hend x τ (by omega) (by omega) h4 h5 h6⟩
/-- what is made by the class and by the reference becomes a mask -/
theorem mask_fin (hW : Wf n k w C M) (hI : ImR I J) (hM : RM n k w C M q J u) (ht : u.1 0 0 = 0) (hm : m < 8) {co : Option St} (F : Nat → Bool) (hc : wp co (fun τ => RC n k w C M q τ ∧ Mk τ (fun r => decide (r < n) && F r))) (G : Int32 → St → Option Int32) (hG : ∀ i u', i < 192 → RM n k w C M q J u' → ∃ t, G (nI i) u' = some t ∧ nz t = bI (F i)) : Agr tbl (Rl I) (co.bind fun t38 => (c_X3_become t38 (nI m)).bind fun v50 => some (.ok v50.1, v50.2)) ((lp 5000 (fun (s7 : Int32 × St) => (if (192 : Int32) ≤ s7.1 then some (.inr s7.2) else ((G s7.1 s7.2).bind fun (t15 : Int32) => ((ix s7.1 192).bind fun j31 => some (.inl ((s7.1 + 1), (sI s7.2 5 j31 (nz t15)))))))) ((0 : Int32), u)).bind fun (r8 : St) => ((m_X4_becomes r8 (nI m)).bind fun v33 => some (v33.1, v33.2))) := by
  refine Agr.bindC hc (fun τ hτ => ?_)
  rw [mmade F hM (f := fun (s7 : Int32 × St) => (if (192 : Int32) ≤ s7.1 then some (.inr s7.2) else ((G s7.1 s7.2).bind fun (t15 : Int32) => ((ix s7.1 192).bind fun j31 => some (.inl ((s7.1 + 1), (sI s7.2 5 j31 (nz t15)))))))) (fun i u' hi hM' => by
    obtain ⟨t, e1, e2⟩ := hG i u' hi hM'
    simp only [e1, Option.bind_some]
    rw [if_neg (show ¬ (192 : Int32) ≤ nI i from ltL 192 (by decide) hi), ix192 hi, Option.bind_some, e2, nI_s]) (fun u' => if_pos (geL 192 (by decide))), Option.bind_some]
  exact mask_end hW hI hτ.1 hτ.2 (hM.oc (i := 5) (by decide) fI_oc) (fun r hr => fI_in0 (hW.r192 hr)) (by rw [fI_ne (by decide)]; exact ht) hm
end EACH
