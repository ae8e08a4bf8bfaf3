/-! the law's start: what the tables say -/
theorem arK {args : Array Value} {s : State} {ty : FieldType} (h : (Cond.arrayClass ty).before args s = true) (hno : ∀ C, ty ≠ .object C) : ∃ cA, ArrOfT s cA ty ∧ va_RA s cA ty := by
  obtain ⟨c, k, comp, h1, h2, h3⟩ := Cond.arrayClass_spec h
  refine ⟨c, fun n z => ⟨(fun k h => by cases h), k, h2, comp, h3⟩, ?_⟩
  cases ty <;> first | exact absurd rfl (hno _) | exact h1
theorem arKA {args : Array Value} {s : State} {t : FieldType} (h : (Cond.arrayOver (.array t)).before args s = true) : ∃ cA, ArrOfT s cA (.array t) ∧ va_RA s cA (.array t) := by
  obtain ⟨comp, c, k, h1, h2, h3, h4, h5⟩ := Jvm.Stand.arrayOver_specB h
  exact ⟨c, fun n z => ⟨(fun k h => by cases h), k, h3, comp, h4⟩, h5⟩
theorem arKO {args : Array Value} {s : State} {C : String} (h : (Cond.arrayOver (.object C)).before args s = true) : ∃ cA, ArrOfT s cA (.object C) ∧ va_RA s cA (.object C) := by
  obtain ⟨comp, c, k, h1, h2, h3, h4, h5⟩ := Cond.arrayOver_spec h
  exact ⟨c, fun n z => ⟨(fun k h => by cases h), k, h3, comp, h4⟩, ⟨k, comp, h3, h4, h1, h5⟩⟩
theorem nw_nst {args : Array Value} {s : State} {a d : String} {b : Nat} {c : MethodName} (h : (Cond.methodLinkNest a b c d).before args s = true) : va_Nw (.methodLinkNest a b c d) s := h
theorem nw_cst {args : Array Value} {s : State} {a d : String} (h : (Cond.castable a d).before args s = true) : va_Nw (.castable a d) s := h
theorem nw_dcl {args : Array Value} {s : State} {a : MethodName} (h : (Cond.declares a).before args s = true) : va_Nw (.declares a) s := h
theorem ao_0 {args : Array Value} {s : State} {C : String} (h : (Cond.arrayOver (.object C)).before args s = true) : va_AO C s := h
theorem aoa_0 {args : Array Value} {s : State} {t : FieldType} (h : (Cond.arrayOver (.array t)).before args s = true) : va_AOA t s := h
theorem tl_nst : ∀ q ∈ gNst, Cond.methodLinkNest q.1 q.2.1 q.2.2.1 q.2.2.2 ∈ lw_tbl := by decide +kernel
theorem tl_cst : ∀ q ∈ gCst, Cond.castable q.1 q.2 ∈ lw_tbl := by decide +kernel
theorem tl_dcl : ∀ q ∈ gDcl, Cond.declares q ∈ lw_tbl := by decide +kernel
theorem tl_str : ∀ q ∈ gStr, Cond.stringRef q.1 q.2.1 q.2.2 ∈ lw_tbl := by decide +kernel
theorem tl_u0 : ∀ w ∈ u_ws RX0 TX0 5, w ∈ lw_tbl := by decide +kernel
theorem tl_u1 : ∀ w ∈ u_ws RX1 TX1 5, w ∈ lw_tbl := by decide +kernel
theorem tl_u2 : ∀ w ∈ u_ws RX2 TX2 1, w ∈ lw_tbl := by decide +kernel
theorem tl_u3 : ∀ w ∈ u_ws RX3 TX3 7, w ∈ lw_tbl := by decide +kernel
theorem tl_u4 : ∀ w ∈ u_ws RX4 TX4 26, w ∈ lw_tbl := by decide +kernel
theorem ncG0 {args : Array Value} {s : State} (hgv : (Jvm.Cond.and given_1 narrow_1).before args s = true) : NcG s := by
  have hs := flat_of_before _ hgv
  intro q hq
  refine va_Nc.of (hs (.not (.castable q.1 q.2)) ?_)
  revert hq
  revert q
  decide +kernel
