/-! ===== keep, back: the reference's loops ===== -/
theorem fIL_so (v : St) (a b o : Nat) (fA : Nat → Int64) (fB : Nat → Int32) (i : Nat) : sI (sL (fI (fL v a o fA i) b o fB i) a (o + i) (fA i)) b (o + i) (fB i) = fI (fL v a o fA (i + 1)) b o fB (i + 1) := by
  rw [← fI_s, ← fL_s]; rfl
section KB
variable {v : St} {x : Nat}
theorem at_o {a N x i : Nat} (hx : x < 2) (hi : i < a) (ha : a ≤ 1536) (hN : N = 2 * a) : ix (nI a * nI x + nI i) N = some (a * x + i) := by
  rw [pk_mul, nI_add]
  have : a * x ≤ a * 1 := Nat.mul_le_mul_left a (by omega)
  exact ix_nI (by omega) (by omega)
theorem kL1 (hx : x < 2) : lp 5000 (fun (s4 : Int32 × St) => (if (1152 : Int32) ≤ s4.1 then some (.inr s4.2) else ((ix s4.1 1152).bind fun j12 => ((ix (((1152 : Int32) * (nI x)) + s4.1) 2304).bind fun j14 => ((ix s4.1 1152).bind fun j16 => ((ix (((1152 : Int32) * (nI x)) + s4.1) 2304).bind fun j18 => some (.inl ((s4.1 + 1), (sI (sL s4.2 13 j14 (s4.2.2 1 j12)) 14 j18 (nz ((sL s4.2 13 j14 (s4.2.2 1 j12)).1 2 j16))))))))))) ((0 : Int32), v) = some (fI (fL v 13 (1152 * x) (fun i => v.2 1 i) 1152) 14 (1152 * x) (fun i => nz (v.1 2 i)) 1152) := by
  refine lp_g (fun i => (nI i, fI (fL v 13 (1152 * x) (fun i => v.2 1 i) i) 14 (1152 * x) (fun i => nz (v.1 2 i)) i)) 1152 _ ?_ (by decide) (fun i hi => ?_) ?_
  · rw [fL_0, fI_0]; rfl
  · have e1 : (fI (fL v 13 (1152 * x) (fun i => v.2 1 i) i) 14 (1152 * x) (fun i => nz (v.1 2 i)) i).2 1 i = v.2 1 i := by rw [fI2, fL_ne (by decide)]
    have e2 : (fI (fL v 13 (1152 * x) (fun i => v.2 1 i) i) 14 (1152 * x) (fun i => nz (v.1 2 i)) i).1 2 i = v.1 2 i := by rw [fI_ne (by decide)]; rfl
    have eo : ix (((1152 : Int32) * nI x) + nI i) 2304 = some (1152 * x + i) := at_o hx hi (by decide) rfl
    show (if (1152 : Int32) ≤ nI i then _ else (ix (nI i) 1152).bind fun j12 => _) = _
    rw [if_neg (show ¬ (1152 : Int32) ≤ nI i from nI_ge (b := 1152) hi (by decide)), ix_nI hi (by decide), Option.bind_some]
    show ((ix (((1152 : Int32) * nI x) + nI i) 2304).bind fun j14 => _) = _
    rw [eo, Option.bind_some, Option.bind_some, Option.bind_some, sL1, e1, e2, nI_s]
    exact congrArg (fun y => some (Sum.inl (nI (i + 1), y))) (fIL_so v 13 14 (1152 * x) (fun i => v.2 1 i) (fun i => nz (v.1 2 i)) i)
  · exact if_pos (show (1152 : Int32) ≤ nI 1152 by decide)
theorem kL2 (hx : x < 2) : lp 5000 (fun (s20 : Int32 × St) => (if (1536 : Int32) ≤ s20.1 then some (.inr s20.2) else ((ix s20.1 1536).bind fun j28 => ((ix (((1536 : Int32) * (nI x)) + s20.1) 3072).bind fun j30 => some (.inl ((s20.1 + 1), (sI s20.2 15 j30 (nz (s20.2.1 4 j28))))))))) ((0 : Int32), v) = some (fI v 15 (1536 * x) (fun i => nz (v.1 4 i)) 1536) := by
  refine lp_g (fun i => (nI i, fI v 15 (1536 * x) (fun i => nz (v.1 4 i)) i)) 1536 _ ?_ (by decide) (fun i hi => ?_) ?_
  · rw [fI_0]; rfl
  · have e2 : (fI v 15 (1536 * x) (fun i => nz (v.1 4 i)) i).1 4 i = v.1 4 i := by rw [fI_ne (by decide)]
    have eo : ix (((1536 : Int32) * nI x) + nI i) 3072 = some (1536 * x + i) := at_o hx hi (by decide) rfl
    show (if (1536 : Int32) ≤ nI i then _ else (ix (nI i) 1536).bind fun j12 => _) = _
    rw [if_neg (show ¬ (1536 : Int32) ≤ nI i from nI_ge (b := 1536) hi (by decide)), ix_nI hi (by decide), Option.bind_some]
    show ((ix (((1536 : Int32) * nI x) + nI i) 3072).bind fun j14 => _) = _
    rw [eo, Option.bind_some, e2, nI_s]
    exact congrArg (fun y => some (Sum.inl (nI (i + 1), y))) (fI_s v 15 (1536 * x) (fun i => nz (v.1 4 i)) i)
  · exact if_pos (show (1536 : Int32) ≤ nI 1536 by decide)
theorem kL3 (hx : x < 2) : lp 5000 (fun (s32 : Int32 × St) => (if (6 : Int32) ≤ s32.1 then some (.inr s32.2) else ((ix s32.1 6).bind fun j40 => ((ix (((6 : Int32) * (nI x)) + s32.1) 12).bind fun j42 => some (.inl ((s32.1 + 1), (sI s32.2 16 j42 (s32.2.1 3 j40)))))))) ((0 : Int32), v) = some (fI v 16 (6 * x) (fun i => v.1 3 i) 6) := by
  refine lp_g (fun i => (nI i, fI v 16 (6 * x) (fun i => v.1 3 i) i)) 6 _ ?_ (by decide) (fun i hi => ?_) ?_
  · rw [fI_0]; rfl
  · have e2 : (fI v 16 (6 * x) (fun i => v.1 3 i) i).1 3 i = v.1 3 i := by rw [fI_ne (by decide)]
    have eo : ix (((6 : Int32) * nI x) + nI i) 12 = some (6 * x + i) := at_o hx hi (by decide) rfl
    show (if (6 : Int32) ≤ nI i then _ else (ix (nI i) 6).bind fun j12 => _) = _
    rw [if_neg (show ¬ (6 : Int32) ≤ nI i from nI_ge (b := 6) hi (by decide)), ix_nI hi (by decide), Option.bind_some]
    show ((ix (((6 : Int32) * nI x) + nI i) 12).bind fun j14 => _) = _
    rw [eo, Option.bind_some, e2, nI_s]
    exact congrArg (fun y => some (Sum.inl (nI (i + 1), y))) (fI_s v 16 (6 * x) (fun i => v.1 3 i) i)
  · exact if_pos (show (6 : Int32) ≤ nI 6 by decide)
theorem bL1 (hx : x < 2) : lp 5000 (fun (s7 : Int32 × St) => (if (1152 : Int32) ≤ s7.1 then some (.inr s7.2) else ((ix (((1152 : Int32) * (nI x)) + s7.1) 2304).bind fun j15 => ((ix s7.1 1152).bind fun j17 => ((ix (((1152 : Int32) * (nI x)) + s7.1) 2304).bind fun j19 => ((ix s7.1 1152).bind fun j21 => some (.inl ((s7.1 + 1), (sI (sL s7.2 1 j17 (s7.2.2 13 j15)) 2 j21 (nz ((sL s7.2 1 j17 (s7.2.2 13 j15)).1 14 j19))))))))))) ((0 : Int32), v) = some (fI (fL v 1 0 (fun i => v.2 13 (1152 * x + i)) 1152) 2 0 (fun i => nz (v.1 14 (1152 * x + i))) 1152) := by
  refine lp_g (fun i => (nI i, fI (fL v 1 0 (fun i => v.2 13 (1152 * x + i)) i) 2 0 (fun i => nz (v.1 14 (1152 * x + i))) i)) 1152 _ ?_ (by decide) (fun i hi => ?_) ?_
  · rw [fL_0, fI_0]; rfl
  · have e1 : (fI (fL v 1 0 (fun i => v.2 13 (1152 * x + i)) i) 2 0 (fun i => nz (v.1 14 (1152 * x + i))) i).2 13 (1152 * x + i) = v.2 13 (1152 * x + i) := by rw [fI2, fL_ne (by decide)]
    have e2 : (fI (fL v 1 0 (fun i => v.2 13 (1152 * x + i)) i) 2 0 (fun i => nz (v.1 14 (1152 * x + i))) i).1 14 (1152 * x + i) = v.1 14 (1152 * x + i) := by rw [fI_ne (by decide)]; rfl
    have eo : ix (((1152 : Int32) * nI x) + nI i) 2304 = some (1152 * x + i) := at_o hx hi (by decide) rfl
    show (if (1152 : Int32) ≤ nI i then _ else (ix (((1152 : Int32) * nI x) + nI i) 2304).bind fun j14 => _) = _
    rw [if_neg (show ¬ (1152 : Int32) ≤ nI i from nI_ge (b := 1152) hi (by decide)), eo, Option.bind_some]
    show ((ix (nI i) 1152).bind fun j14 => _) = _
    rw [ix_nI hi (by decide), Option.bind_some, Option.bind_some, Option.bind_some, sL1, e1, e2, nI_s]
    exact congrArg (fun y => some (Sum.inl (nI (i + 1), y))) (fIL_s v 1 2 (fun i => v.2 13 (1152 * x + i)) (fun i => nz (v.1 14 (1152 * x + i))) i)
  · exact if_pos (show (1152 : Int32) ≤ nI 1152 by decide)
theorem bL2 (hx : x < 2) : lp 5000 (fun (s23 : Int32 × St) => (if (1536 : Int32) ≤ s23.1 then some (.inr s23.2) else ((ix (((1536 : Int32) * (nI x)) + s23.1) 3072).bind fun j31 => ((ix s23.1 1536).bind fun j33 => some (.inl ((s23.1 + 1), (sI s23.2 4 j33 (nz (s23.2.1 15 j31))))))))) ((0 : Int32), v) = some (fI v 4 0 (fun i => nz (v.1 15 (1536 * x + i))) 1536) := by
  refine lp_g (fun i => (nI i, fI v 4 0 (fun i => nz (v.1 15 (1536 * x + i))) i)) 1536 _ ?_ (by decide) (fun i hi => ?_) ?_
  · rw [fI_0]; rfl
  · have e2 : (fI v 4 0 (fun i => nz (v.1 15 (1536 * x + i))) i).1 15 (1536 * x + i) = v.1 15 (1536 * x + i) := by rw [fI_ne (by decide)]
    have eo : ix (((1536 : Int32) * nI x) + nI i) 3072 = some (1536 * x + i) := at_o hx hi (by decide) rfl
    show (if (1536 : Int32) ≤ nI i then _ else (ix (((1536 : Int32) * nI x) + nI i) 3072).bind fun j14 => _) = _
    rw [if_neg (show ¬ (1536 : Int32) ≤ nI i from nI_ge (b := 1536) hi (by decide)), eo, Option.bind_some]
    show ((ix (nI i) 1536).bind fun j14 => _) = _
    rw [ix_nI hi (by decide), Option.bind_some, e2, nI_s]
    exact congrArg (fun y => some (Sum.inl (nI (i + 1), y))) (fI_s0 v 4 (fun i => nz (v.1 15 (1536 * x + i))) i)
  · exact if_pos (show (1536 : Int32) ≤ nI 1536 by decide)
theorem bL3 (hx : x < 2) : lp 5000 (fun (s35 : Int32 × St) => (if (6 : Int32) ≤ s35.1 then some (.inr s35.2) else ((ix (((6 : Int32) * (nI x)) + s35.1) 12).bind fun j43 => ((ix s35.1 6).bind fun j45 => some (.inl ((s35.1 + 1), (sI s35.2 3 j45 (s35.2.1 16 j43)))))))) ((0 : Int32), v) = some (fI v 3 0 (fun i => v.1 16 (6 * x + i)) 6) := by
  refine lp_g (fun i => (nI i, fI v 3 0 (fun i => v.1 16 (6 * x + i)) i)) 6 _ ?_ (by decide) (fun i hi => ?_) ?_
  · rw [fI_0]; rfl
  · have e2 : (fI v 3 0 (fun i => v.1 16 (6 * x + i)) i).1 16 (6 * x + i) = v.1 16 (6 * x + i) := by rw [fI_ne (by decide)]
    have eo : ix (((6 : Int32) * nI x) + nI i) 12 = some (6 * x + i) := at_o hx hi (by decide) rfl
    show (if (6 : Int32) ≤ nI i then _ else (ix (((6 : Int32) * nI x) + nI i) 12).bind fun j14 => _) = _
    rw [if_neg (show ¬ (6 : Int32) ≤ nI i from nI_ge (b := 6) hi (by decide)), eo, Option.bind_some]
    show ((ix (nI i) 6).bind fun j14 => _) = _
    rw [ix_nI hi (by decide), Option.bind_some, e2, nI_s]
    exact congrArg (fun y => some (Sum.inl (nI (i + 1), y))) (fI_s0 v 3 (fun i => v.1 16 (6 * x + i)) i)
  · exact if_pos (show (6 : Int32) ≤ nI 6 by decide)
end KB
