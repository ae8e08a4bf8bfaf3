/-! ===== how many rows lie elsewhere ===== -/
section ELS
variable {n : Nat} {σ u : St} {l : List Nat}
theorem nI_eqI {a b : Nat} (ha : a < 2 ^ 31) (hb : b < 2 ^ 31) : nI a = nI b ↔ a = b := by
  constructor
  · intro z
    have := congrArg Int32.toInt z
    rw [nI_toInt ha, nI_toInt hb] at this
    omega
  · intro z; rw [z]
def els (l : List Nat) (i : Nat) : Bool := !decide (l.getD i 0 = i)
theorem els_if {i : Nat} (h1 : l.getD i 0 < 192) (h2 : i < 192) : (if nI (l.getD i 0) = nI i then some (0 : Int32) else some (1 : Int32)) = some (bI (els l i)) := by
  unfold els
  by_cases g : l.getD i 0 = i
  · rw [if_pos ((nI_eqI (by omega) (by omega)).mpr g), decide_eq_true g]; rfl
  · rw [if_neg (fun z => g ((nI_eqI (by omega) (by omega)).mp z)), decide_eq_false g]; rfl
theorem ct_bI (p : Nat → Bool) (i : Nat) : nI (fb_ct p i) + bI (p i) = nI (fb_ct p (i + 1)) := by
  rw [fb_ct_succ]
  cases p i
  · show nI _ + nI 0 = _
    rw [nI_plus]; rfl
  · show nI _ + nI 1 = _
    rw [nI_plus]; rfl
theorem elsewhere_eq (hP : Pr σ l) (hn : n ≤ 192) (hl : ∀ x, x ∈ l → x < n) : c_X0_howManyElsewhere σ = some (nI (fb_ct (els l) l.length)) := by
  have h192 : l.length ≤ 192 := hP.2.1
  have h19 : σ.1 19 0 = nI l.length := hP.1
  unfold c_X0_howManyElsewhere
  rw [lp_g (fun i => (nI (fb_ct (els l) i), nI i)) l.length (nI (fb_ct (els l) l.length)) ?_ (by omega) (fun i hi => ?_) ?_]
  · rfl
  · rfl
  · show (if σ.1 19 0 ≤ nI l.length then _ else _) = _
    rw [h19, if_pos (geL _ (by omega))]
  · have hlt := getD_lt hl hi
    show (if σ.1 19 0 ≤ nI i then _ else (ix (nI i) 192).bind fun j9 => (if σ.1 20 j9 = nI i then some (0 : Int32) else some (1 : Int32)).bind fun (t11 : Int32) => some (Sum.inl (nI (fb_ct (els l) i) + t11, nI i + 1))) = _
    rw [h19, if_neg (ltL _ (by omega) hi), ix192 (by omega), Option.bind_some, hP.row hi, els_if (by omega) (by omega), Option.bind_some, ct_bI, nI_s]
theorem Od.row (h : Od u l) {i : Nat} (hi : i < l.length) : u.1 10 i = nI (l.getD i 0) := by
  refine h.2.2 i _ ?_
  rw [List.getD_eq_getElem?_getD, List.getElem?_eq_getElem hi]
  rfl
theorem melse_eq (hP : Od u l) (hn : n ≤ 192) (hl : ∀ x, x ∈ l → x < n) : lp 5000 (fun (s109 : Int32 × Int32) => (if u.1 0 16 ≤ s109.2 then some (.inr s109.1) else ((ix s109.2 192).bind fun j117 => ((if u.1 10 j117 = s109.2 then some (0 : Int32) else some (1 : Int32)).bind fun (t119 : Int32) => ((m_X4_flag u t119).bind fun v123 => some (.inl ((s109.1 + v123), (s109.2 + 1)))))))) ((0 : Int32), (0 : Int32)) = some (nI (fb_ct (els l) l.length)) := by
  have h192 := hP.2.1
  refine lp_g (fun i => (nI (fb_ct (els l) i), nI i)) l.length _ rfl (by omega) (fun i hi => ?_) ?_
  · have hlt := getD_lt hl hi
    show (if u.1 0 16 ≤ nI i then _ else (ix (nI i) 192).bind fun j9 => (if u.1 10 j9 = nI i then some (0 : Int32) else some (1 : Int32)).bind fun (t11 : Int32) => (m_X4_flag u t11).bind fun v => some (Sum.inl (nI (fb_ct (els l) i) + v, nI i + 1))) = _
    rw [hP.1, if_neg (ltL _ (by omega) hi), ix192 (by omega), Option.bind_some, hP.row hi, els_if (by omega) (by omega), Option.bind_some, flag_eq, Option.bind_some, ct_bI, nI_s]
  · show (if u.1 0 16 ≤ nI l.length then _ else _) = _
    rw [hP.1, if_pos (geL _ (by omega))]
end ELS
