/-! ===== the table that both keep: rows, columns, widths, cells, masks ===== -/
theorem sI1 (σ : St) (i j a b : Nat) (v : Int32) : (sI σ i j v).1 a b = if a = i ∧ b = j then v else σ.1 a b := rfl
theorem sI2 (σ : St) (i j : Nat) (v : Int32) : (sI σ i j v).2 = σ.2 := rfl
theorem sL1 (σ : St) (i j : Nat) (v : Int64) : (sL σ i j v).1 = σ.1 := rfl
theorem sL2 (σ : St) (i j a b : Nat) (v : Int64) : (sL σ i j v).2 a b = if a = i ∧ b = j then v else σ.2 a b := rfl
theorem sIn {σ : St} {i j a b : Nat} {v : Int32} (h : a ≠ i ∨ b ≠ j) : (sI σ i j v).1 a b = σ.1 a b := if_neg (by omega)
theorem sIs {σ : St} {i j : Nat} {v : Int32} : (sI σ i j v).1 i j = v := if_pos ⟨rfl, rfl⟩
theorem sLn {σ : St} {i j a b : Nat} {v : Int64} (h : a ≠ i ∨ b ≠ j) : (sL σ i j v).2 a b = σ.2 a b := if_neg (by omega)
theorem sLs {σ : St} {i j : Nat} {v : Int64} : (sL σ i j v).2 i j = v := if_pos ⟨rfl, rfl⟩
def Fit (w : Nat) (v : Int64) : Prop := -((2 ^ (w - 1) : Nat) : Int) ≤ v.toInt ∧ v.toInt < ((2 ^ (w - 1) : Nat) : Int)
def Wf (n k : Nat) (w : Nat → Nat) (C : Nat → Nat → Int64) (M : Nat → Nat → Bool) : Prop :=
  n ≤ 192 ∧ k ≤ 6 ∧ (∀ c, c < k → 2 ≤ w c ∧ w c ≤ 63) ∧ (∀ c r, c < k → r < n → C c r = ((-9223372036854775808) : Int64) ∨ Fit (w c) (C c r)) ∧ ∀ m r, m < 8 → M m r = true → r < n
/-- the class's state holds the table -/
def RC (n k : Nat) (w : Nat → Nat) (C : Nat → Nat → Int64) (M : Nat → Nat → Bool) (q : Int32) (σ : St) : Prop :=
  (k ≤ 6 ∧ σ.1 1 0 = nI n) ∧ σ.1 1 1 = nI k ∧ σ.1 0 6 = q ∧ (∀ c, c < k → σ.1 2 c = nI (w c)) ∧ (∀ c r, c < k → r < n → σ.2 (4 + c) r = C c r) ∧ ∀ m r, m < 8 → r < 192 → lb (σ.2 (11 + m) (r / 64)) (r % 64) = M m r
/-- the reference's state holds the table; J: what lies in its images -/
def RM (n k : Nat) (w : Nat → Nat) (C : Nat → Nat → Int64) (M : Nat → Nat → Bool) (q : Int32) (J u : St) : Prop :=
  u.1 0 5 = nI n ∧ u.1 0 6 = nI k ∧ u.1 0 7 = q ∧ (∀ c, c < k → u.1 3 c = nI (w c)) ∧ (∀ c r, c < k → r < 192 → u.1 2 (192 * c + r) = bI (decide (r < n) && C c r != ((-9223372036854775808) : Int64))) ∧ (∀ c r, c < k → r < n → C c r ≠ ((-9223372036854775808) : Int64) → u.2 1 (192 * c + r) = C c r) ∧ (∀ m r, m < 8 → r < 192 → u.1 4 (192 * m + r) = bI (M m r)) ∧ ∀ i, 13 ≤ i → u.1 i = J.1 i ∧ u.2 i = J.2 i
section REL
variable {n k : Nat} {w : Nat → Nat} {C : Nat → Nat → Int64} {M : Nat → Nat → Bool} {q : Int32} {σ τ u u' J : St} {c r m : Nat}
theorem Wf.hn (h : Wf n k w C M) : n ≤ 192 := h.1
theorem Wf.n31 (h : Wf n k w C M) : n < 2 ^ 31 := by have := h.1; omega
theorem Wf.n5 (h : Wf n k w C M) : n < 5000 := by have := h.1; omega
theorem Wf.hk (h : Wf n k w C M) : k ≤ 6 := h.2.1
theorem Wf.k31 (h : Wf n k w C M) : k < 2 ^ 31 := by have := h.2.1; omega
theorem Wf.hw (h : Wf n k w C M) (hc : c < k) : 2 ≤ w c ∧ w c ≤ 63 := h.2.2.1 c hc
theorem Wf.hf (h : Wf n k w C M) (hc : c < k) (hr : r < n) : C c r = ((-9223372036854775808) : Int64) ∨ Fit (w c) (C c r) := h.2.2.2.1 c r hc hr
theorem Wf.hm (h : Wf n k w C M) (hm : m < 8) (hr : M m r = true) : r < n := h.2.2.2.2 m r hm hr
theorem Wf.c6 (h : Wf n k w C M) (hc : c < k) : c < 6 := by have := h.2.1; omega
theorem Wf.r192 (h : Wf n k w C M) (hr : r < n) : r < 192 := by have := h.1; omega
theorem RC.rows (h : RC n k w C M q σ) : σ.1 1 0 = nI n := h.1.2
theorem RC.cols (h : RC n k w C M q σ) : σ.1 1 1 = nI k := h.2.1
theorem RC.kept (h : RC n k w C M q σ) : σ.1 0 6 = q := h.2.2.1
theorem RC.wid (h : RC n k w C M q σ) (hc : c < k) : σ.1 2 c = nI (w c) := h.2.2.2.1 c hc
theorem RC.cell (h : RC n k w C M q σ) (hc : c < k) (hr : r < n) : σ.2 (4 + c) r = C c r := h.2.2.2.2.1 c r hc hr
theorem RC.bit (h : RC n k w C M q σ) (hm : m < 8) (hr : r < 192) : lb (σ.2 (11 + m) (r / 64)) (r % 64) = M m r := h.2.2.2.2.2 m r hm hr
theorem RC.of (h : RC n k w C M q σ) (hf : ∀ j, j < 19 → τ.1 j = σ.1 j ∧ τ.2 j = σ.2 j) : RC n k w C M q τ := by
  have hk := h.1.1
  refine ⟨⟨hk, by rw [(hf 1 (by decide)).1]; exact h.rows⟩, by rw [(hf 1 (by decide)).1]; exact h.cols, by rw [(hf 0 (by decide)).1]; exact h.kept, fun c hc => by rw [(hf 2 (by decide)).1]; exact h.wid hc, fun c r hc hr => by rw [(hf (4 + c) (by omega)).2]; exact h.cell hc hr, fun m r hm hr => by rw [(hf (11 + m) (by omega)).2]; exact h.bit hm hr⟩
theorem RC.sL (h : RC n k w C M q σ) {i j : Nat} {v : Int64} (hi : 19 ≤ i) : RC n k w C M q (sL σ i j v) := h.of fun a ha => ⟨rfl, sL_ne (by omega)⟩
theorem RC.sI (h : RC n k w C M q σ) {i j : Nat} {v : Int32} (hi : 19 ≤ i) : RC n k w C M q (sI σ i j v) := h.of fun a ha => ⟨sI_ne (by omega), rfl⟩
theorem RM.rows (h : RM n k w C M q J u) : u.1 0 5 = nI n := h.1
theorem RM.cols (h : RM n k w C M q J u) : u.1 0 6 = nI k := h.2.1
theorem RM.kept (h : RM n k w C M q J u) : u.1 0 7 = q := h.2.2.1
theorem RM.wid (h : RM n k w C M q J u) (hc : c < k) : u.1 3 c = nI (w c) := h.2.2.2.1 c hc
theorem RM.has (h : RM n k w C M q J u) (hc : c < k) (hr : r < 192) : u.1 2 (192 * c + r) = bI (decide (r < n) && C c r != ((-9223372036854775808) : Int64)) := h.2.2.2.2.1 c r hc hr
theorem RM.has' (h : RM n k w C M q J u) (hW : Wf n k w C M) (hc : c < k) (hr : r < n) : u.1 2 (192 * c + r) = bI (C c r != ((-9223372036854775808) : Int64)) := by
  rw [h.has hc (hW.r192 hr), decide_eq_true hr]
  rfl
theorem RM.cell (h : RM n k w C M q J u) (hc : c < k) (hr : r < n) (hN : C c r ≠ ((-9223372036854775808) : Int64)) : u.2 1 (192 * c + r) = C c r := h.2.2.2.2.2.1 c r hc hr hN
theorem RM.msk (h : RM n k w C M q J u) (hm : m < 8) (hr : r < 192) : u.1 4 (192 * m + r) = bI (M m r) := h.2.2.2.2.2.2.1 m r hm hr
theorem RM.img (h : RM n k w C M q J u) {i : Nat} (hi : 13 ≤ i) : u.1 i = J.1 i ∧ u.2 i = J.2 i := h.2.2.2.2.2.2.2 i hi
theorem RM.of (h : RM n k w C M q J u) (hf : ∀ j, j ≠ 0 → ¬ (5 ≤ j ∧ j ≤ 12) → u'.1 j = u.1 j ∧ u'.2 j = u.2 j) (h5 : u'.1 0 5 = u.1 0 5) (h6 : u'.1 0 6 = u.1 0 6) (h7 : u'.1 0 7 = u.1 0 7) : RM n k w C M q J u' := by
  refine ⟨by rw [h5]; exact h.rows, by rw [h6]; exact h.cols, by rw [h7]; exact h.kept, fun c hc => by rw [(hf 3 (by decide) (by decide)).1]; exact h.wid hc, fun c r hc hr => by rw [(hf 2 (by decide) (by decide)).1]; exact h.has hc hr, fun c r hc hr hN => by rw [(hf 1 (by decide) (by decide)).2]; exact h.cell hc hr hN, fun m r hm hr => by rw [(hf 4 (by decide) (by decide)).1]; exact h.msk hm hr, fun i hi => ?_⟩
  rw [(hf i (by omega) (by omega)).1, (hf i (by omega) (by omega)).2]
  exact h.img hi
theorem RM.sI0 (h : RM n k w C M q J u) {j : Nat} {v : Int32} (hj : j = 0 ∨ 8 ≤ j) : RM n k w C M q J (sI u 0 j v) := h.of (fun a h0 _ => ⟨sI_ne h0, rfl⟩) (sIn (by omega)) (sIn (by omega)) (sIn (by omega))
theorem RM.sIx (h : RM n k w C M q J u) {i j : Nat} {v : Int32} (h1 : 5 ≤ i) (h2 : i ≤ 12) : RM n k w C M q J (sI u i j v) := h.of (fun a _ h0 => ⟨sI_ne (by omega), rfl⟩) (sIn (by omega)) (sIn (by omega)) (sIn (by omega))
theorem RM.sLx (h : RM n k w C M q J u) {i j : Nat} {v : Int64} (h1 : 5 ≤ i) (h2 : i ≤ 12) : RM n k w C M q J (sL u i j v) := h.of (fun a _ h0 => ⟨rfl, sL_ne (by omega)⟩) rfl rfl rfl
/-- one cell alone has changed -/
def Oc (i : Nat) (σ τ : St) : Prop := ∀ j, j ≠ i → τ.1 j = σ.1 j ∧ τ.2 j = σ.2 j
theorem Oc.rf {i : Nat} {σ : St} : Oc i σ σ := fun _ _ => ⟨rfl, rfl⟩
theorem Oc.tr {i : Nat} {a b d : St} (h : Oc i a b) (h2 : Oc i b d) : Oc i a d := fun j hj => ⟨(h2 j hj).1.trans (h j hj).1, (h2 j hj).2.trans (h j hj).2⟩
theorem Oc.sL {i j : Nat} {a b : St} {v : Int64} (h : Oc i a b) : Oc i a (sL b i j v) := fun x hx => ⟨(h x hx).1, (sL_ne hx).trans (h x hx).2⟩
theorem Oc.sI {i j : Nat} {a b : St} {v : Int32} (h : Oc i a b) : Oc i a (sI b i j v) := fun x hx => ⟨(sI_ne hx).trans (h x hx).1, (h x hx).2⟩
theorem RC.oc (h : RC n k w C M q σ) {i : Nat} (hi : 19 ≤ i) (ho : Oc i σ τ) : RC n k w C M q τ := h.of fun j hj => ho j (by omega)
theorem RM.oc (h : RM n k w C M q J u) {i : Nat} (hi : 5 ≤ i ∧ i ≤ 12) (ho : Oc i u u') : RM n k w C M q J u' := h.of (fun j _ h2 => ho j (by omega)) (by rw [(ho 0 (by omega)).1]) (by rw [(ho 0 (by omega)).1]) (by rw [(ho 0 (by omega)).1])
/-! refusals -/
def gX (b : Bool) (e : String) : Except String Unit := if b then .ok () else .error e
theorem xB_gX {β : Type} (b : Bool) (e : String) (σ : St) (kk : Unit → St → Option (Except String β × St)) : xB (some (gX b e, σ)) kk = if b = true then kk () σ else some (.error e, σ) := by cases b <;> rfl
theorem lt_if (a : Int32) (n : Nat) (hn : n < 2 ^ 31) (σ : St) (e : String) : (if a < 0 then some ((.error e : Except String Unit), σ) else (if a < nI n then some (.ok (), σ) else some (.error e, σ))) = some (gX (inB a n) e, σ) := by
  unfold inB
  by_cases h1 : a < 0
  · rw [if_pos h1]
    rw [fa_lt] at h1
    have h0 : (0 : Int32).toInt = 0 := by decide
    have : ¬ 0 ≤ a.toInt := by omega
    simp [this, gX]
  · rw [if_neg h1]
    rw [fa_lt] at h1
    have h0 : (0 : Int32).toInt = 0 := by decide
    have e1 : 0 ≤ a.toInt := by omega
    by_cases h2 : a < nI n
    · rw [if_pos h2]
      rw [fa_lt, nI_toInt hn] at h2
      simp [e1, h2, gX]
    · rw [if_neg h2]
      rw [fa_lt, nI_toInt hn] at h2
      simp [e1, h2, gX]
theorem needColumn_eq (h : RC n k w C M q σ) (hW : Wf n k w C M) (a : Int32) : c_X3_needColumn σ a = some (gX (inB a k) "java/lang/IndexOutOfBoundsException", σ) := by
  unfold c_X3_needColumn
  rw [h.cols]
  exact lt_if a k hW.k31 σ _
theorem needRow_eq (h : RC n k w C M q σ) (hW : Wf n k w C M) (a : Int32) : c_X3_needRow σ a = some (gX (inB a n) "java/lang/IndexOutOfBoundsException", σ) := by
  unfold c_X3_needRow
  rw [h.rows]
  exact lt_if a n hW.n31 σ _
theorem needMask_eq (σ : St) (a : Int32) : c_X3_needMask σ a = some (gX (inB a 8) "java/lang/IndexOutOfBoundsException", σ) := lt_if a 8 (by decide) σ _
theorem needWord_eq (σ : St) (a : Int32) : c_X3_needWord σ a = some (gX (inB a 3) "java/lang/IndexOutOfBoundsException", σ) := lt_if a 3 (by decide) σ _
theorem needImage_eq (σ : St) (a : Int32) : c_X3_needImage σ a = some (gX (inB a 2) "java/lang/IndexOutOfBoundsException", σ) := lt_if a 2 (by decide) σ _
theorem needBit_eq (h : RC n k w C M q σ) (hW : Wf n k w C M) (hc : c < k) (a : Int32) : c_X3_needBit σ (nI c) a = some (gX (inB a (w c)) "java/lang/IndexOutOfBoundsException", σ) := by
  unfold c_X3_needBit
  rw [ix6 (hW.c6 hc), Option.bind_some, h.wid hc]
  exact lt_if a (w c) (by have := hW.hw hc; omega) σ _
theorem needArgument_eq (σ : St) (b : Bool) : c_X3_needArgument σ (bI b) = some (gX b "java/lang/IllegalArgumentException", σ) := by cases b <;> rfl
theorem needState_eq (σ : St) (b : Bool) : c_X3_needState σ (bI b) = some (gX b "java/lang/IllegalStateException", σ) := by cases b <;> rfl
theorem needLong_eq (σ : St) (b : Bool) : c_X3_needLong σ (bI b) = some (gX b "java/lang/ArithmeticException", σ) := by cases b <;> rfl
theorem needAct_eq (σ : St) (b : Bool) : c_X3_needAct σ (bI b) = if b = true then some (.ok (), σ) else some (.error "java/lang/ArithmeticException", sI σ 0 6 (σ.1 0 6 + 1)) := by cases b <;> rfl
theorem needWidth_eq (σ : St) (a : Int32) : c_X3_needWidth σ a = some (gX (rg a.toInt 2 63) "java/lang/IllegalArgumentException", σ) := by
  unfold c_X3_needWidth
  rw [rg_if, Option.bind_some, needArgument_eq, xB_gX, show (2 : Int32).toInt = 2 from by decide, show (63 : Int32).toInt = 63 from by decide]
  cases rg a.toInt 2 63 <;> rfl
theorem t64 (a : Int32) : a.toInt64.toInt = a.toInt := Int32.toInt_toInt64 a
theorem isColumn_eq (h : RM n k w C M q J u) (hW : Wf n k w C M) (a : Int32) : m_X4_isColumn u a = some (bI (inB a k)) := by
  unfold m_X4_isColumn
  have e : ((nI k - 1).toInt64).toInt = (k : Int) - 1 := by
    have := hW.hk
    rw [t64, show (1 : Int32) = nI 1 from rfl, pk_sub_toInt (by omega) (by decide)]
    rfl
  rw [isIn_eq, h.cols, e, t64, show (0 : Int64).toInt = 0 from by decide, rg_inB, Option.bind_some, nz_bI]
theorem isRow_eq (h : RM n k w C M q J u) (hW : Wf n k w C M) (a : Int32) : m_X4_isRow u a = some (bI (inB a n)) := by
  unfold m_X4_isRow
  have e : ((nI n - 1).toInt64).toInt = (n : Int) - 1 := by
    have := hW.hn
    rw [t64, show (1 : Int32) = nI 1 from rfl, pk_sub_toInt (by omega) (by decide)]
    rfl
  rw [isIn_eq, h.rows, e, t64, show (0 : Int64).toInt = 0 from by decide, rg_inB, Option.bind_some, nz_bI]
theorem isMask_eq (u : St) (a : Int32) : m_X4_isMask u a = some (bI (inB a 8)) := by
  unfold m_X4_isMask
  rw [isIn_eq, t64, show (0 : Int64).toInt = 0 from by decide, show (7 : Int64).toInt = ((8 : Nat) : Int) - 1 from by decide, rg_inB, Option.bind_some, nz_bI]
theorem isWord_eq (u : St) (a : Int32) : m_X4_isWord u a = some (bI (inB a 3)) := by
  unfold m_X4_isWord
  rw [isIn_eq, t64, show (0 : Int64).toInt = 0 from by decide, show (2 : Int64).toInt = ((3 : Nat) : Int) - 1 from by decide, rg_inB, Option.bind_some, nz_bI]
theorem areIn_eq (h : RM n k w C M q J u) (hW : Wf n k w C M) (a b : Int32) : m_X4_areIn u a b = some (bI (inB a k && inB b 8)) := by
  unfold m_X4_areIn
  rw [isColumn_eq h hW, isMask_eq, Option.bind_some, if_bI]
  cases inB a k <;> cases inB b 8 <;> rfl
theorem tooGreat_eq (u : St) (a : Int32) : m_X4_tooGreat u a = some ((0 : Int32), sI (sI u 0 7 (u.1 0 7 + 1)) 0 0 a) := rfl
/-! a mark of a mask, a number under a mask -/
theorem row64 {r : Nat} (h : r < 192) : nI r / 64 = nI (r / 64) := pk_div (d := 64) (by omega) (by decide) (by decide)
theorem mod64 {r : Nat} (h : r < 192) : nI r - nI r / 64 * 64 = nI (r % 64) := pk_rem (d := 64) (by omega) (by decide) (by decide)
theorem cIsIn_eq (σ : St) (i : Nat) (hr : r < 192) : c_X3_isIn σ i (nI r) = some (bI (lb (σ.2 i (r / 64)) (r % 64))) := by
  unfold c_X3_isIn
  rw [mod64 hr, row64 hr, ix3 (by omega), Option.bind_some]
  simp only [lb_ask0 (show r % 64 < 64 by omega)]
  cases lb (σ.2 i (r / 64)) (r % 64) <;> rfl
theorem isUnder_eq (h : RC n k w C M q σ) (hm : m < 8) (hr : r < 192) : c_X1_isUnder σ (nI r) (nI m) = some (bI (M m r)) := by
  unfold c_X1_isUnder
  rw [ix8 hm, Option.bind_some, cIsIn_eq σ _ hr, Option.bind_some, nz_bI, h.bit hm hr]
theorem isNumbered_eq (h : RC n k w C M q σ) (hW : Wf n k w C M) (hc : c < k) (hr : r < n) (hm : m < 8) : c_X1_isNumbered σ (nI c) (nI r) (nI m) = some (bI (C c r != ((-9223372036854775808) : Int64) && M m r)) := by
  unfold c_X1_isNumbered
  rw [ix6 (hW.c6 hc), Option.bind_some, ix192 (hW.r192 hr), Option.bind_some, isUnder_eq h hm (hW.r192 hr), h.cell hc hr, Option.bind_some, if_bI]
  by_cases e : C c r = ((-9223372036854775808) : Int64)
  · simp [e, nz_0, bI_f, nz]
  · cases hM : M m r <;> simp [e, nz, bI]
theorem areBoth_eq (h : RC n k w C M q σ) (hW : Wf n k w C M) {d : Nat} (hc : c < k) (hd : d < k) (hr : r < n) (hm : m < 8) : c_X1_areBothNumbered σ (nI c) (nI d) (nI r) (nI m) = some (bI (C d r != ((-9223372036854775808) : Int64) && (C c r != ((-9223372036854775808) : Int64) && M m r))) := by
  unfold c_X1_areBothNumbered
  rw [ix6 (hW.c6 hd), Option.bind_some, ix192 (hW.r192 hr), Option.bind_some, isNumbered_eq h hW hc hr hm, h.cell hd hr, Option.bind_some, if_bI]
  by_cases e : C d r = ((-9223372036854775808) : Int64)
  · simp [e, nz, bI]
  · cases hM : (C c r != ((-9223372036854775808) : Int64) && M m r) <;> simp [e, nz, bI]
theorem hasUnder_eq (h : RM n k w C M q J u) (hW : Wf n k w C M) (hc : c < k) (hr : r < 192) (hm : m < 8) : m_X4_hasUnder u (nI c) (nI r) (nI m) = some (bI (C c r != ((-9223372036854775808) : Int64) && M m r)) := by
  unfold m_X4_hasUnder
  rw [at_eq, Option.bind_some, ixB hm hr, Option.bind_some, at_eq, Option.bind_some, ixA (hW.c6 hc) hr, Option.bind_some, h.msk hm hr, h.has hc hr, if_bI, if_bI]
  cases hM : M m r with
  | false => simp [nz, bI]
  | true =>
    have := hW.hm hm hM
    by_cases e : C c r = ((-9223372036854775808) : Int64) <;> simp [e, this, nz, bI]
end REL
/-! ===== both answer alike ===== -/
def Agr {α : Type} (tbl : List String) (R : St → St → Prop) (co : Option (Except String α × St)) (mo : Option (α × St)) : Prop :=
  ∃ b u1, mo = some (b, u1) ∧ ((∃ s1, co = some (.ok b, s1) ∧ u1.1 0 0 = 0 ∧ R s1 u1) ∨ ∃ e s1 j, co = some (.error e, s1) ∧ tbl[j]? = some e ∧ u1.1 0 0 = nI (j + 1) ∧ R s1 u1)
abbrev Ims : Type := Nat → Option St
/-- the images that both keep -/
def ImR (I : Ims) (J : St) : Prop := ∀ x, x < 2 → match I x with
  | none => J.1 19 x = 0
  | some τ => J.1 19 x = 1 ∧ ∃ n k w C M, Wf n k w C M ∧ (τ.1 0 0 = nI n ∧ τ.1 0 1 = nI k ∧ (∀ c, c < k → τ.1 1 c = nI (w c)) ∧ (∀ c r, c < k → r < n → τ.2 (3 + c) r = C c r) ∧ ∀ m r, m < 8 → r < 192 → lb (τ.2 (10 + m) (r / 64)) (r % 64) = M m r) ∧
    J.1 17 x = nI n ∧ J.1 18 x = nI k ∧ (∀ c, c < k → J.1 16 (6 * x + c) = nI (w c)) ∧ (∀ c r, c < k → r < 192 → J.1 14 (1152 * x + (192 * c + r)) = bI (decide (r < n) && C c r != ((-9223372036854775808) : Int64))) ∧ (∀ c r, c < k → r < n → C c r ≠ ((-9223372036854775808) : Int64) → J.2 13 (1152 * x + (192 * c + r)) = C c r) ∧ ∀ m r, m < 8 → r < 192 → J.1 15 (1536 * x + (192 * m + r)) = bI (M m r)
def Rl (I : Ims) (s u : St) : Prop := ∃ n k w C M q J, Wf n k w C M ∧ RC n k w C M q s ∧ RM n k w C M q J u ∧ ImR I J
section AGR
variable {α : Type} {tbl : List String} {I : Ims} {n k : Nat} {w : Nat → Nat} {C : Nat → Nat → Int64} {M : Nat → Nat → Bool} {q : Int32} {s u J : St} {co : Option (Except String α × St)} {mo : Option (α × St)}
theorem Agr.err (hW : Wf n k w C M) (hI : ImR I J) (j : Nat) {e : String} {b : α} {s1 u1 : St} (hc : co = some (.error e, s1)) (hm : mo = some (b, u1)) (ht : tbl[j]? = some e) (hu : u1.1 0 0 = nI (j + 1)) (h1 : RC n k w C M q s1) (h2 : RM n k w C M q J u1) : Agr tbl (Rl I) co mo :=
  ⟨b, u1, hm, Or.inr ⟨e, s1, j, hc, ht, hu, n, k, w, C, M, q, J, hW, h1, h2, hI⟩⟩
theorem Agr.ok (hW : Wf n k w C M) (hI : ImR I J) {b : α} {s1 u1 : St} (hc : co = some (.ok b, s1)) (hm : mo = some (b, u1)) (hu : u1.1 0 0 = 0) (h1 : RC n k w C M q s1) (h2 : RM n k w C M q J u1) : Agr tbl (Rl I) co mo :=
  ⟨b, u1, hm, Or.inl ⟨s1, hc, hu, n, k, w, C, M, q, J, hW, h1, h2, hI⟩⟩
/-- both have an answer, and it is one -/
theorem Agr.both (hI : ImR I J) {b : α} (hc : wp co (fun p => p.1 = .ok b ∧ RC n k w C M q p.2)) (hm : wp mo (fun p => p.1 = b ∧ p.2.1 0 0 = 0 ∧ RM n k w C M q J p.2)) (hW : Wf n k w C M) : Agr tbl (Rl I) co mo := by
  obtain ⟨⟨a, s1⟩, e1, rfl, h1⟩ := hc
  obtain ⟨⟨b, u1⟩, e2, rfl, h0, h2⟩ := hm
  exact Agr.ok hW hI e1 e2 h0 h1 h2
end AGR
theorem op_get (I : Ims) (s u : St) (a b : Int32) (h : Rl I s u) : Agr ["java/lang/IndexOutOfBoundsException"] (Rl I) (c_X3_get s a b) (m_X4_get u a b) := by
  obtain ⟨n, k, w, C, M, q, J, hW, hC, hM0, hI⟩ := h
  unfold c_X3_get m_X4_get
  have hM : RM n k w C M q J (sI u 0 0 0) := hM0.sI0 (Or.inl rfl)
  have ht : (sI u 0 0 0).1 0 0 = 0 := sIs
  generalize sI u 0 0 0 = u0 at hM ht ⊢
  simp only [needColumn_eq hC hW, needRow_eq hC hW, xB_gX, isColumn_eq hM hW, isRow_eq hM hW, Option.bind_some, if_bI, fails_eq]
  by_cases h1 : inB a k = true
  case neg => simp only [if_neg h1]; exact Agr.err hW hI 0 rfl rfl rfl sIs hC (hM.sI0 (Or.inl rfl))
  by_cases h2 : inB b n = true
  case neg => simp only [if_pos h1, if_neg h2]; exact Agr.err hW hI 0 rfl rfl rfl sIs hC (hM.sI0 (Or.inl rfl))
  simp only [if_pos h1, if_pos h2]
  obtain ⟨c, hc, rfl⟩ := inB_ex hW.k31 h1
  obtain ⟨r, hr, rfl⟩ := inB_ex hW.n31 h2
  have hr2 := hW.r192 hr
  simp only [ix6 (hW.c6 hc), ix192 hr2, at_eq, ixA (hW.c6 hc) hr2, Option.bind_some, hC.cell hc hr, hM.has' hW hc hr, if_bI]
  refine Agr.ok (b := C c r) hW hI rfl ?_ ht hC hM
  by_cases e : C c r = ((-9223372036854775808) : Int64)
  · simp [e]
  · simp [e, hM.cell hc hr e]
