/-! ===== my own layer: a state of numbers, a fixed lay-out of cells, and V: the machine at a frame, over them ===== -/
/-- numbers by cell and place: ints (and yes or no), longs -/
abbrev St : Type := (Nat → Nat → Int32) × (Nat → Nat → Int64)
def sI (σ : St) (i j : Nat) (v : Int32) : St := (fun a b => if a = i ∧ b = j then v else σ.1 a b, σ.2)
def sL (σ : St) (i j : Nat) (v : Int64) : St := (σ.1, fun a b => if a = i ∧ b = j then v else σ.2 a b)
/-- the lay-out: how many cells; kind and length (0 longs, 1 ints, 2 yes or no, 3 an object of a class, 4 rows); fields (some: a reference to a cell; none: a number); where the rows begin -/
abbrev Ly : Type := Nat × (Nat → Nat × Nat) × (Nat → List (Option Nat)) × (Nat → Nat)
/-- the machine's numbers: of classes and slots, of array classes, of addresses -/
abbrev Ev : Type := va_G × (Nat → ClassId) × (Nat → Nat)
def fvs (E : Ev) (σ : St) (i : Nat) : Nat → List (Option Nat) → List Value
  | _, [] => []
  | k, some j :: l => .ref (E.2.2 j) :: fvs E σ i (k + 1) l
  | k, none :: l => .int (σ.1 i k) :: fvs E σ i (k + 1) l
def cellOf (Y : Ly) (E : Ev) (σ : St) (i : Nat) : va_E := match Y.2.1 i with
  | (0, n) => .inl (E.2.1 0, n, .inr (.inl (σ.2 i)))
  | (1, n) => .inl (E.2.1 1, n, .inl (σ.1 i))
  | (2, n) => .inl (E.2.1 2, n, .inl (σ.1 i))
  | (3, k) => .inr (k, fvs E σ i 0 (Y.2.2.1 i))
  | (_, n) => .inl (E.2.1 3, n, .inr (.inr (.inr (.inr (fun k => some (E.2.2 (Y.2.2.2 i + k)))))))
def wsOf (Y : Ly) (E : Ev) (σ : St) : va_W := (List.range Y.1).map (fun i => (E.2.2 i, cellOf Y E σ i))
def Ax (Y : Ly) (E : Ev) (sz : Nat) : Nat → Prop := fun q => (∃ i, i < Y.1 ∧ E.2.2 i = q) ∨ sz ≤ q
def Adr (Y : Ly) (E : Ev) (base : Nat) : Prop := (∀ i j, i < Y.1 → j < Y.1 → E.2.2 i = E.2.2 j → i = j) ∧ ∀ i, i < Y.1 → base ≤ E.2.2 i
abbrev vcl : List vw_C := [(RX0, TX0, 5), (RX1, TX1, 5), (RX2, TX2, 1), (RX3, TX3, 7), (RX4, TX4, 26)]
abbrev tysOf (E : Ev) : List (ClassId × FieldType) := [(E.2.1 0, .long), (E.2.1 1, .int), (E.2.1 2, .boolean), (E.2.1 3, .array .long)]
theorem ws_get {Y : Ly} {E : Ev} {σ : St} {i : Nat} (h : i < Y.1) : (wsOf Y E σ)[i]? = some (E.2.2 i, cellOf Y E σ i) := by
  unfold wsOf
  rw [List.getElem?_map, List.getElem?_range h]
  rfl
theorem ws_some {Y : Ly} {E : Ev} {σ : St} {k : Nat} {q : Nat × va_E} (h : (wsOf Y E σ)[k]? = some q) : k < Y.1 ∧ q = (E.2.2 k, cellOf Y E σ k) := by
  have hl : k < Y.1 := by
    have h1 := (List.getElem?_eq_some_iff.mp h).1
    unfold wsOf at h1
    rw [List.length_map, List.length_range] at h1
    exact h1
  rw [ws_get hl] at h
  exact ⟨hl, (Option.some.inj h).symm⟩
theorem ws_set {Y : Ly} {E : Ev} {σ σ' : St} {i : Nat} {e : va_E} (he : cellOf Y E σ' i = e) (ho : ∀ j, j ≠ i → cellOf Y E σ' j = cellOf Y E σ j) : (wsOf Y E σ).set i (E.2.2 i, e) = wsOf Y E σ' := by
  apply List.ext_getElem?
  intro k
  by_cases hk : k < Y.1
  · rw [ws_get hk]
    by_cases hi : i = k
    · subst hi
      rw [List.getElem?_set_self (by unfold wsOf; rw [List.length_map, List.length_range]; exact hk), he]
    · rw [List.getElem?_set_ne hi, ws_get hk, ho k (fun h => hi h.symm)]
  · rw [List.getElem?_eq_none (by rw [List.length_set]; unfold wsOf; rw [List.length_map, List.length_range]; omega), List.getElem?_eq_none (by unfold wsOf; rw [List.length_map, List.length_range]; omega)]
theorem ws_D {Y : Ly} {E : Ev} {σ : St} {base sz : Nat} (h : Adr Y E base) : va_D (Ax Y E sz) (wsOf Y E σ) := by
  refine ⟨fun i j x y hx hy hxy => ?_, fun k q hk => ?_⟩
  · obtain ⟨h1, rfl⟩ := ws_some hx
    obtain ⟨h2, rfl⟩ := ws_some hy
    exact h.1 i j h1 h2 hxy
  · obtain ⟨h1, rfl⟩ := ws_some hk
    exact Or.inl ⟨k, h1, rfl⟩
theorem fvs_sL (E : Ev) (σ : St) (a b : Nat) (v : Int64) (i : Nat) : ∀ (l : List (Option Nat)) (k : Nat), fvs E (sL σ a b v) i k l = fvs E σ i k l
  | [], _ => rfl
  | some j :: l, k => by show _ :: _ = _ :: _; rw [fvs_sL E σ a b v i l (k + 1)]
  | none :: l, k => by show _ :: _ = _ :: _; rw [fvs_sL E σ a b v i l (k + 1)]; rfl
theorem fvs_ne (E : Ev) (σ σ' : St) (i : Nat) (h : σ'.1 i = σ.1 i) : ∀ (l : List (Option Nat)) (k : Nat), fvs E σ' i k l = fvs E σ i k l
  | [], _ => rfl
  | some j :: l, k => by show _ :: _ = _ :: _; rw [fvs_ne E σ σ' i h l (k + 1)]
  | none :: l, k => by show _ :: _ = _ :: _; rw [fvs_ne E σ σ' i h l (k + 1), h]
/-- a cell is what its own numbers make it -/
theorem cell_ne {Y : Ly} {E : Ev} {σ σ' : St} {j : Nat} (h1 : σ'.1 j = σ.1 j) (h2 : σ'.2 j = σ.2 j) : cellOf Y E σ' j = cellOf Y E σ j := by
  unfold cellOf
  rw [h1, h2, fvs_ne E σ σ' j h1]
theorem sI_ne {σ : St} {i k j : Nat} {v : Int32} (h : j ≠ i) : (sI σ i k v).1 j = σ.1 j := by
  funext b
  show (if j = i ∧ b = k then v else σ.1 j b) = _
  rw [if_neg (fun q => h q.1)]
theorem sL_ne {σ : St} {i k j : Nat} {v : Int64} (h : j ≠ i) : (sL σ i k v).2 j = σ.2 j := by
  funext b
  show (if j = i ∧ b = k then v else σ.2 j b) = _
  rw [if_neg (fun q => h q.1)]
theorem sI_self {σ : St} {i k : Nat} {v : Int32} : (sI σ i k v).1 i = upd (σ.1 i) k v := by
  funext b
  show (if i = i ∧ b = k then v else σ.1 i b) = (if b = k then v else σ.1 i b)
  by_cases h : b = k <;> simp [h]
theorem sL_self {σ : St} {i k : Nat} {v : Int64} : (sL σ i k v).2 i = vp_updL (σ.2 i) k v := by
  funext b
  show (if i = i ∧ b = k then v else σ.2 i b) = (if b = k then v else σ.2 i b)
  by_cases h : b = k <;> simp [h]
theorem fvs_get (E : Ev) (σ : St) (i : Nat) : ∀ (l : List (Option Nat)) (k j : Nat) (o : Option Nat), l[j]? = some o → (fvs E σ i k l)[j]? = some (match o with | some a => .ref (E.2.2 a) | none => .int (σ.1 i (k + j)))
  | [], _, _, _, h => by simp at h
  | some a :: l, k, 0, o, h => by cases h; rfl
  | none :: l, k, 0, o, h => by cases h; rfl
  | some a :: l, k, j + 1, o, h => by
    rw [List.getElem?_cons_succ] at h
    show (fvs E σ i (k + 1) l)[j]? = _
    rw [fvs_get E σ i l (k + 1) j o h, show k + 1 + j = k + (j + 1) by omega]
  | none :: l, k, j + 1, o, h => by
    rw [List.getElem?_cons_succ] at h
    show (fvs E σ i (k + 1) l)[j]? = _
    rw [fvs_get E σ i l (k + 1) j o h, show k + 1 + j = k + (j + 1) by omega]
theorem fvs_len (E : Ev) (σ : St) (i : Nat) : ∀ (l : List (Option Nat)) (k : Nat), (fvs E σ i k l).length = l.length
  | [], _ => rfl
  | some a :: l, k => by show (fvs E σ i (k + 1) l).length + 1 = _; rw [fvs_len E σ i l (k + 1)]; rfl
  | none :: l, k => by show (fvs E σ i (k + 1) l).length + 1 = _; rw [fvs_len E σ i l (k + 1)]; rfl
theorem fvs_set (E : Ev) (σ : St) (i : Nat) (v : Int32) : ∀ (l : List (Option Nat)) (k j : Nat), l[j]? = some none → (fvs E σ i k l).set j (.int v) = fvs E (sI σ i (k + j) v) i k l
  | [], _, _, h => by simp at h
  | some a :: l, k, 0, h => by cases h
  | none :: l, k, 0, h => by
    show Value.int v :: fvs E σ i (k + 1) l = .int ((sI σ i k v).1 i k) :: fvs E (sI σ i k v) i (k + 1) l
    have e1 : (sI σ i k v).1 i k = v := by show (if i = i ∧ k = k then v else _) = v; simp
    have e2 : ∀ (l : List (Option Nat)) (n : Nat), k < n → fvs E σ i n l = fvs E (sI σ i k v) i n l := by
      intro l
      induction l with
      | nil => intro n _; rfl
      | cons o l ih =>
        intro n hn
        cases o with
        | some a => show _ :: _ = _ :: _; rw [ih (n + 1) (by omega)]
        | none =>
          show Value.int (σ.1 i n) :: _ = Value.int ((sI σ i k v).1 i n) :: _
          rw [ih (n + 1) (by omega)]
          have : (sI σ i k v).1 i n = σ.1 i n := by show (if i = i ∧ n = k then v else _) = _; rw [if_neg (fun q => by omega)]
          rw [this]
    rw [e1, e2 l (k + 1) (by omega)]
  | some a :: l, k, j + 1, h => by
    rw [List.getElem?_cons_succ] at h
    show _ :: (fvs E σ i (k + 1) l).set j (.int v) = _ :: _
    rw [fvs_set E σ i v l (k + 1) j h, show k + 1 + j = k + (j + 1) by omega]
  | none :: l, k, j + 1, h => by
    rw [List.getElem?_cons_succ] at h
    show Value.int (σ.1 i k) :: (fvs E σ i (k + 1) l).set j (.int v) = Value.int ((sI σ i (k + (j + 1)) v).1 i k) :: _
    rw [fvs_set E σ i v l (k + 1) j h, show k + 1 + j = k + (j + 1) by omega]
    have : (sI σ i (k + (j + 1)) v).1 i k = σ.1 i k := by show (if i = i ∧ k = k + (j + 1) then v else _) = _; rw [if_neg (fun q => by omega)]
    rw [this]
/-! the good words of the tables -/
def Gw : List Cond := lw_tbl.filter goodWord
theorem gm {w : Cond} (i : Nat) (h : lw_tbl[i]? = some w) (hg : goodWord w = true) : w ∈ Gw := List.mem_filter.mpr ⟨List.mem_of_getElem? h, hg⟩
theorem gms {w : Cond} (i : Nat) (h : (k2_sels lw_privs)[i]? = some w) (hg : goodWord w = true) : w ∈ Gw := List.mem_filter.mpr ⟨List.mem_append_left _ (List.mem_of_getElem? h), hg⟩
theorem gm1 {w : Cond} (i : Nat) (h : tables_1_1[i]? = some w) (hg : goodWord w = true) : w ∈ Gw := List.mem_filter.mpr ⟨List.mem_append_right _ (List.mem_append_left _ (List.mem_of_getElem? h)), hg⟩
theorem gm2 {w : Cond} (i : Nat) (h : tables_1_2[i]? = some w) (hg : goodWord w = true) : w ∈ Gw := List.mem_filter.mpr ⟨List.mem_append_right _ (List.mem_append_right _ (List.mem_append_left _ (List.mem_of_getElem? h))), hg⟩
theorem gm3 {w : Cond} (i : Nat) (h : tables_1_3[i]? = some w) (hg : goodWord w = true) : w ∈ Gw := List.mem_filter.mpr ⟨List.mem_append_right _ (List.mem_append_right _ (List.mem_append_right _ (List.mem_append_left _ (List.mem_of_getElem? h)))), hg⟩
theorem gm4 {w : Cond} (i : Nat) (h : tables_1_4[i]? = some w) (hg : goodWord w = true) : w ∈ Gw := List.mem_filter.mpr ⟨List.mem_append_right _ (List.mem_append_right _ (List.mem_append_right _ (List.mem_append_right _ (List.mem_append_left _ (List.mem_of_getElem? h))))), hg⟩
theorem gm5 {w : Cond} (i : Nat) (h : tables_1_5[i]? = some w) (hg : goodWord w = true) : w ∈ Gw := List.mem_filter.mpr ⟨List.mem_append_right _ (List.mem_append_right _ (List.mem_append_right _ (List.mem_append_right _ (List.mem_append_right _ (List.mem_append_left _ (List.mem_of_getElem? h)))))), hg⟩
theorem gm6 {w : Cond} (i : Nat) (h : tables_1_6[i]? = some w) (hg : goodWord w = true) : w ∈ Gw := List.mem_filter.mpr ⟨List.mem_append_right _ (List.mem_append_right _ (List.mem_append_right _ (List.mem_append_right _ (List.mem_append_right _ (List.mem_append_right _ (List.mem_append_left _ (List.mem_of_getElem? h))))))), hg⟩
theorem gm7 {w : Cond} (i : Nat) (h : tables_1_7[i]? = some w) (hg : goodWord w = true) : w ∈ Gw := List.mem_filter.mpr ⟨List.mem_append_right _ (List.mem_append_right _ (List.mem_append_right _ (List.mem_append_right _ (List.mem_append_right _ (List.mem_append_right _ (List.mem_append_right _ (List.mem_of_getElem? h))))))), hg⟩
theorem Gw_good {w : Cond} (h : w ∈ Gw) : goodWord w = true := (List.mem_filter.mp h).2
theorem good_cg {c0 w0 : Cond} (h0 : w0 ∈ Gw) : GoodIn (c0 :: Gw) (w0 :: Gw) := by
  intro w hw
  have h1 : w ∈ Gw := (List.mem_cons.mp hw).elim (fun q => by rw [q]; exact h0) (fun q => q)
  exact ⟨List.mem_cons_of_mem _ h1, good_of_word (Gw_good h1)⟩
/-! what stays true around: statics of Throwable, the texts, links among nest mates, casts -/
abbrev zU : String := "UNASSIGNED_STACK"
abbrev zS : String := "SUPPRESSED_SENTINEL"
def Amb (strs : List (String × Nat × String)) (nst : List (String × Nat × MethodName × String)) (cst : List (String × String)) (dcl : List MethodName) (E : Ev) (base : Nat) (U : State) : Prop :=
  va_K E.1 vcl (tysOf E) U ∧ vx_Zq Bundle.tN "UNASSIGNED_STACK" Bundle.steD (fun q => base ≤ q) U U.heap ∧ vx_Zq Bundle.tN "SUPPRESSED_SENTINEL" Bundle.listD (fun q => base ≤ q) U U.heap ∧
  (∀ q ∈ strs, ∃ a, vk_R q.1 q.2.1 q.2.2 a U) ∧ (∀ q ∈ nst, va_Nw (.methodLinkNest q.1 q.2.1 q.2.2.1 q.2.2.2) U) ∧ (∀ q ∈ cst, va_Nw (.castable q.1 q.2) U) ∧ (∀ q ∈ dcl, va_Nw (.declares q) U)
theorem cast_warm {a b : String} {s U : State} (hW : s.WarmedH U.vm) (h : va_Nw (.castable a b) s) : va_Nw (.castable a b) U := by
  have h1 : (Cond.castable a b).before #[] (s.setVm U.vm) = true := Cond.before_shiftedFace (State.Shifted.of_warmed hW) _ rfl h
  exact va_tabs rfl (rfl : (s.setVm U.vm).vm = U.vm) h1
theorem Amb.go {strs : List (String × Nat × String)} {nst : List (String × Nat × MethodName × String)} {cst : List (String × String)} {dcl : List MethodName} {E : Ev} {base : Nat} {s U : State} (h : Amb strs nst cst dcl E base s) (hW : s.WarmedH U.vm) (hk : ∀ a : Nat, a < s.heap.size → ¬ base ≤ a → U.heap[a]? = s.heap[a]?) : Amb strs nst cst dcl E base U := by
  obtain ⟨h1, h2, h3, h4, h5, h6, h7⟩ := h
  refine ⟨va_K.moved hW.alike h1, vx_Zq.moved hW.alike (vx_Zq.kept h2 hk), vx_Zq.moved hW.alike (vx_Zq.kept h3 hk), fun q hq => ?_, fun q hq => ?_, fun q hq => ?_, fun q hq => ?_⟩
  · obtain ⟨a, ha⟩ := h4 q hq
    exact ⟨a, vk_R.warm hW ha⟩
  · exact va_Nw.warmM hW (h5 q hq)
  · exact cast_warm hW (h6 q hq)
  · exact va_Nw.warmD hW (h7 q hq)
theorem Amb.same {strs : List (String × Nat × String)} {nst : List (String × Nat × MethodName × String)} {cst : List (String × String)} {dcl : List MethodName} {E : Ev} {base : Nat} {s U : State} (h : Amb strs nst cst dcl E base s) (hv : s.vm = U.vm) (hh : U.heap = s.heap) : Amb strs nst cst dcl E base U := by
  obtain ⟨h1, h2, h3, h4, h5, h6, h7⟩ := h
  have hal : s.vm.Alike U.vm := by rw [hv]; exact Vm.Alike.refl _
  refine ⟨va_K.moved hal h1, vx_Zq.moved hal (by rw [hh]; exact h2), vx_Zq.moved hal (by rw [hh]; exact h3), fun q hq => ?_, fun q hq => ?_, fun q hq => ?_, fun q hq => ?_⟩
  · obtain ⟨a, ha⟩ := h4 q hq
    exact ⟨a, vk_R.same hv.symm ha⟩
  · exact va_Nw.same rfl hv (h5 q hq)
  · exact va_Nw.same rfl hv (h6 q hq)
  · exact va_Nw.same rfl hv (h7 q hq)
