/-! ===== sum, upTo, dot, steps ===== -/
theorem sumOr_wp {u : St} {K L : Int} (h : mB u K L) (hK : K ≤ 2305843009213693952) (hL : L ≤ 2305843009213693952) (a : Int32) : wp (m_X4_sumOr u a) (fun p => (lgB (mV u) = true ∧ p.1.toInt = mV u ∧ Oc 7 u p.2) ∨ (lgB (mV u) = false ∧ ∃ v, Oc 7 u v ∧ p = (0, sI v 0 0 a))) := by
  unfold m_X4_sumOr
  refine wp_bm (carries_wp h hK hL) (fun v hv => ?_)
  obtain ⟨ho, hz, b0, b1, b2, b3, b4, b5⟩ := hv
  rw [← hz]
  rw [show ix (5 : Int32) 6 = some 5 from rfl, show ix (4 : Int32) 6 = some 4 from rfl, show ix (3 : Int32) 6 = some 3 from rfl, show ix (2 : Int32) 6 = some 2 from rfl, show ix (1 : Int32) 6 = some 1 from rfl, show ix (0 : Int32) 6 = some 0 from rfl]
  simp only [Option.bind_some]
  have c1 : (16777215 : Int64).toInt = 16777215 := by decide
  have c2 : (32768 : Int64).toInt = 32768 := by decide
  have c3 : (16744448 : Int64).toInt = 16744448 := by decide
  have c4 : (-1 : Int64).toInt = -1 := by decide
  -- what comes of a high part
  have val : ∀ hi : Int64, -32768 ≤ hi.toInt → hi.toInt < 32768 → (((hi <<< (((48 : Int32)).toInt64 &&& 63)) + (v.2 7 1 <<< (((24 : Int32)).toInt64 &&& 63))) + v.2 7 0).toInt = (v.2 7 0).toInt + 16777216 * (v.2 7 1).toInt + 281474976710656 * hi.toInt := by
    intro hi h1 h2
    have m48 : (lN (2 ^ 48)).toInt = 281474976710656 := by decide
    have m24 : (lN (2 ^ 24)).toInt = 16777216 := by decide
    have e1 : (hi <<< (((48 : Int32)).toInt64 &&& 63)).toInt = hi.toInt * 281474976710656 := by
      have := shl_mul (j := 48) (by decide) hi
      rw [show hi <<< (((48 : Int32)).toInt64 &&& 63) = hi * lN (2 ^ 48) from this, fb_mulL (by rw [m48]; omega) (by rw [m48]; omega), m48]
    have e2 : (v.2 7 1 <<< (((24 : Int32)).toInt64 &&& 63)).toInt = (v.2 7 1).toInt * 16777216 := by
      have := shl_mul (j := 24) (by decide) (v.2 7 1)
      rw [show v.2 7 1 <<< (((24 : Int32)).toInt64 &&& 63) = v.2 7 1 * lN (2 ^ 24) from this, fb_mulL (by rw [m24]; omega) (by rw [m24]; omega), m24]
    have e3 : ((hi <<< (((48 : Int32)).toInt64 &&& 63)) + (v.2 7 1 <<< (((24 : Int32)).toInt64 &&& 63))).toInt = hi.toInt * 281474976710656 + (v.2 7 1).toInt * 16777216 := by
      rw [fb_addL (by rw [e1, e2]; omega) (by rw [e1, e2]; omega), e1, e2]
    rw [fb_addL (by rw [e3]; omega) (by rw [e3]; omega), e3]
    omega
  -- the two tests
  have t5 : (if v.2 7 5 = (0 : Int64) then (if v.2 7 4 = (0 : Int64) then (if v.2 7 3 = (0 : Int64) then (if (32768 : Int64) ≤ v.2 7 2 then some (0 : Int32) else some (1 : Int32)) else some (0 : Int32)) else some (0 : Int32)) else some (0 : Int32)) = some (bI (decide ((v.2 7 5).toInt = 0 ∧ (v.2 7 4).toInt = 0 ∧ (v.2 7 3).toInt = 0 ∧ (v.2 7 2).toInt < 32768))) := by
    simp only [fa_eq64, fa_le64, L_0, c2]
    by_cases q5 : (v.2 7 5).toInt = 0
    · by_cases q4 : (v.2 7 4).toInt = 0
      · by_cases q3 : (v.2 7 3).toInt = 0
        · by_cases q2 : 32768 ≤ (v.2 7 2).toInt
          · simp [q5, q4, q3, q2, bI]
          · simp [q5, q4, q3, q2, bI]
        · simp [q5, q4, q3, bI]
      · simp [q5, q4, bI]
    · simp [q5, bI]
  have t20 : (if v.2 7 5 = ((-1) : Int64) then (if v.2 7 4 = (16777215 : Int64) then (if v.2 7 3 = (16777215 : Int64) then (if v.2 7 2 < (16744448 : Int64) then some (0 : Int32) else some (1 : Int32)) else some (0 : Int32)) else some (0 : Int32)) else some (0 : Int32)) = some (bI (decide ((v.2 7 5).toInt = -1 ∧ (v.2 7 4).toInt = 16777215 ∧ (v.2 7 3).toInt = 16777215 ∧ 16744448 ≤ (v.2 7 2).toInt))) := by
    simp only [fa_eq64, fa_lt64, c4, c1, c3]
    by_cases q5 : (v.2 7 5).toInt = -1
    · by_cases q4 : (v.2 7 4).toInt = 16777215
      · by_cases q3 : (v.2 7 3).toInt = 16777215
        · by_cases q2 : (v.2 7 2).toInt < 16744448
          · simp [q5, q4, q3, q2, bI]
          · simp [q5, q4, q3, q2, bI]
        · simp [q5, q4, q3, bI]
      · simp [q5, q4, bI]
    · simp [q5, bI]
  rw [t5, t20, Option.bind_some, Option.bind_some]
  simp only [if_bI]
  clear t5 t20
  unfold mV lgB
  by_cases up : (v.2 7 5).toInt = 0 ∧ (v.2 7 4).toInt = 0 ∧ (v.2 7 3).toInt = 0 ∧ (v.2 7 2).toInt < 32768
  · rw [if_pos (decide_eq_true up), if_pos (decide_eq_true up), Option.bind_some]
    obtain ⟨u5, u4, u3, u2⟩ := up
    refine wp_some (Or.inl ⟨?_, ?_, ho⟩)
    · rw [u5, u4, u3, Bool.and_eq_true, decide_eq_true_eq, decide_eq_true_eq]
      omega
    · refine (val _ (by omega) u2).trans ?_
      rw [u5, u4, u3]
      omega
  · rw [if_neg (fun q => up (of_decide_eq_true q))]
    by_cases dn : (v.2 7 5).toInt = -1 ∧ (v.2 7 4).toInt = 16777215 ∧ (v.2 7 3).toInt = 16777215 ∧ 16744448 ≤ (v.2 7 2).toInt
    · rw [if_pos (decide_eq_true dn), if_neg (fun q => up (of_decide_eq_true q)), Option.bind_some]
      obtain ⟨u5, u4, u3, u2⟩ := dn
      have eh : (v.2 7 2 - (16777215 : Int64) - (1 : Int64)).toInt = (v.2 7 2).toInt - 16777216 := by
        have e1 : (v.2 7 2 - (16777215 : Int64)).toInt = (v.2 7 2).toInt - 16777215 := by
          rw [fb_subL (by rw [c1]; omega) (by rw [c1]; omega), c1]
        rw [fb_subL (by rw [e1, L_1]; omega) (by rw [e1, L_1]; omega), e1, L_1]
        omega
      refine wp_some (Or.inl ⟨?_, ?_, ho⟩)
      · rw [u5, u4, u3, Bool.and_eq_true, decide_eq_true_eq, decide_eq_true_eq]
        omega
      · refine (val _ (by rw [eh]; omega) (by rw [eh]; omega)).trans ?_
        rw [eh, u5, u4, u3]
        omega
    · rw [if_neg (fun q => dn (of_decide_eq_true q)), fails_eq, Option.bind_some]
      refine wp_some (Or.inr ⟨?_, v, ho, rfl⟩)
      rw [Bool.and_eq_false_iff, decide_eq_false_iff_not, decide_eq_false_iff_not]
      clear val
      generalize (v.2 7 0).toInt = l0 at *
      generalize (v.2 7 1).toInt = l1 at *
      generalize (v.2 7 2).toInt = l2 at *
      generalize (v.2 7 3).toInt = l3 at *
      generalize (v.2 7 4).toInt = l4 at *
      generalize (v.2 7 5).toInt = l5 at *
      clear hz h hK hL ho b5
      by_cases p1 : 1 ≤ l5
      · right; omega
      · by_cases p2 : l5 ≤ -2
        · left; omega
        · by_cases p3 : l5 = 0
          · right; omega
          · left; omega
/-- both are the same sum -/
theorem sum_end {n k : Nat} {w : Nat → Nat} {C : Nat → Nat → Int64} {M : Nat → Nat → Bool} {q : Int32} {J σ u : St} {I : Ims} {tbl : List String} {z : Int} {B : Nat} {K L : Int} (hW : Wf n k w C M) (hI : ImR I J) (hC : RC n k w C M q σ) (hw : Wd σ z B) (hM : RM n k w C M q J u) (ht : u.1 0 0 = 0) (hB : mB u K L) (hz : mV u = z) (hK : K ≤ 2305843009213693952) (hL : L ≤ 2305843009213693952) (j : Nat) (htb : tbl[j]? = some "java/lang/ArithmeticException") : Agr tbl (Rl I) (xB (c_X2_exactLong σ) fun v s => some (.ok v, s)) ((m_X4_sumOr u (nI (j + 1))).bind fun v => some (v.1, v.2)) := by
  obtain ⟨p, ep, hp⟩ := exact_wp hw
  obtain ⟨⟨r1, r2⟩, er, hr⟩ := sumOr_wp hB hK hL (nI (j + 1))
  rw [ep, er]
  rw [hz] at hr
  rcases hp with ⟨l1, x, rfl, hx⟩ | ⟨l1, rfl⟩
  · rcases hr with ⟨l2, hr1, ho⟩ | ⟨l2, _⟩
    · simp only at hr1 ho
      have : x = r1 := by rw [fa_eq64, hx, hr1]
      subst this
      exact Agr.ok hW hI rfl rfl (by rw [(ho 0 (by decide)).1]; exact ht) hC (hM.oc (i := 7) (by decide) ho)
    · rw [l1] at l2; cases l2
  · rcases hr with ⟨l2, _⟩ | ⟨l2, v, ho, hv⟩
    · rw [l1] at l2; cases l2
    · cases hv
      exact Agr.err hW hI j rfl rfl htb sIs hC ((hM.oc (i := 7) (by decide) ho).sI0 (Or.inl rfl))
theorem noSum_wp (u : St) : wp (m_X4_noSum u) (fun v => Oc 7 u v ∧ mB v 0 0 ∧ mV v = 0) := by
  have e : m_X4_noSum u = some (fL u 7 0 (fun _ => 0) 6) := by
    unfold m_X4_noSum
    rw [lp_g (fun i => (nI i, fL u 7 0 (fun _ => 0) i)) 6 (fL u 7 0 (fun _ => 0) 6) ?_ ?_ ?_ ?_]
    · rfl
    · rw [fL_0]; rfl
    · decide
    · intro i hi
      simp only [if_neg (show ¬ (6 : Int32) ≤ nI i from nI_ge (b := 6) hi (by decide)), ix6 hi, Option.bind_some, nI_s]
      rw [fL_s0 u 7 (fun _ => 0) i]
    · exact if_pos (show (6 : Int32) ≤ nI 6 by decide)
  refine wp_eq e ⟨fL_oc, ?_, ?_⟩
  · unfold mB
    rw [fL_in0 (by decide), fL_in0 (by decide), fL_in0 (by decide), fL_in0 (by decide), fL_in0 (by decide), fL_in0 (by decide), L_0]
    decide
  · unfold mV
    rw [fL_in0 (by decide), fL_in0 (by decide), fL_in0 (by decide), fL_in0 (by decide), fL_in0 (by decide), fL_in0 (by decide), L_0]
    decide
