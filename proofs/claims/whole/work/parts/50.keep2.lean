/-! keep -/
theorem AdrOf {E E' : Ev} {I : Im} {base : Nat} {Y' : Ly} (hA : AS E I base) (xi : Nat → Nat) (hix : ∀ i, i < Y'.1 → adx E I (xi i) = some (E'.2.2 i)) (hinj : ∀ i j, i < Y'.1 → j < Y'.1 → xi i = xi j → i = j) : Adr Y' E' base := ⟨fun i j hi hj e => hinj i j hi hj (hA.1 _ _ _ (hix i hi) (by rw [hix j hj, e])), fun i hi => hA.2 _ _ (hix i hi)⟩
theorem WP.obj {E : Ev} {I : Im} {σ : St} {H : Heap} (h : WP E σ I H) : va_at E.1 vcl (E.2.2 0, .inr (3, fvs E σ 0 0 (fldC 0))) H := wsP.mp h.1 0 (by decide)
theorem WP.tab {E : Ev} {I : Im} {σ : St} {H : Heap} (h : WP E σ I H) : va_at E.1 vcl (E.2.2 1, .inr (1, fvs E σ 1 0 (fldC 1))) H := wsP.mp h.1 1 (by decide)
theorem need_ok {σ : St} {k : Int32} {j : Nat} (h : ix k 2 = some j) : c_X3_needImage σ k = some (.ok (), σ) := by
  have h1 := ix_in h
  have h2 : ¬ k < 0 := fun q => h1 (Or.inl q)
  have h3 : k < 2 := by
    have h4 : ¬ 2 ≤ k.toNatClampNeg := fun q => h1 (Or.inr q)
    rw [Int32.lt_iff_toInt_lt]
    have h5 : (k.toInt.toNat) < 2 := Nat.not_le.mp h4
    have h6 : (2 : Int32).toInt = 2 := by decide
    omega
  unfold c_X3_needImage
  rw [if_neg h2, if_pos h3]
def imf (I : Im) : Nat → Option Nat := fun k => (I k).map (fun p : (Nat → Nat) × St => p.1 0)
theorem WP.im {E : Ev} {I : Im} {σ : St} {H : Heap} (h : WP E σ I H) : va_at E.1 vcl (E.2.2 40, .inl (E.2.1 4, 2, .inr (.inr (.inr (.inr (imf I)))))) H := h.2.1
section KP
variable {M : MT} {E : Ev} {A : Nat → Prop} {nL kc ks : Nat} {Q : State → Prop} {Z Z1 : Heap → Prop} {cc : ByteArray} {own : String} {rt : Option FieldType} {base fr lo mc ms pc : Nat} {L : List (Option Value)} {st : List Value}
theorem z_fact {F : Prop} (h : F → VZ M A nL kc ks Q Z pc L st) : VZ M A nL kc ks Q (fun H => F ∧ Z H) pc L st := fun H locs ls hP hS hl => h hP.1 H locs ls hP.2 hS hl
theorem z_iret {Qc : Array Value → State → Outcome → State → Prop} {v : Int32} (K : OKq M E A nL cc own (some .int) base fr lo mc ms) (d : decode cc pc = .ok (.ireturn, 1)) (h1 : kc ≤ mc) (h2 : ks ≤ ms) (hq : ∀ (H : Heap) (t : State), t.heap = H → Z H → va_F A M.2.2.2.2.1 t → Qc M.2.2.2.2.2.2.1 M.2.2.2.2.1 (.returned (some (.int v))) t) : VZ M A nL kc ks (MQ M.2.2.2.2.2.2.2.1 Qc M.2.2.2.2.2.2.1 M.2.2.2.2.1 mc ms A) Z pc L [.int v] :=
  fun H locs ls hP hS hl => W.widen h1 h2 (W.iret K.z.ex K.z.cd K.rty (fun t ht _ => hq H t ht hP (hS.F ht)) hS.2.2 d K.z.lk)
theorem z_img {σ : St} {I : Im} {j : Nat} {k : Int32} {v : Value} (K : OKq M E A nL cc own rt base fr lo mc ms) (d : decode cc pc = .ok (.aaload, 1)) (hj : ix k 2 = some j) (hv : va_rf ((I j).map (fun p => p.1 0)) = v) (kk : VZ M A nL kc ks Q (WP E σ I) (pc + 1) L (v :: st)) : VZ M A nL kc ks Q (WP E σ I) pc L (.int k :: .ref (E.2.2 40) :: st) :=
  z_aal (n := 2) (f := imf I) K d (fun H h => h.im) hj (by subst hv; exact kk)
theorem keep_tail {Qc : Array Value → State → Outcome → State → Prop} {σ τ : St} {I : Im} {j : Nat} {k : Int32} {ad : Nat → Nat} (K : OKq M E A 2 cX3_keep RX3 (some .int) base fr lo 20 1300) (hfr : 2 ≤ fr) (hlo : 82 ≤ lo) (hA : AS E I base) (hAd : ∀ n a, adx E I n = some a → A a) (hj : ix k 2 = some j) (hI : I j = some (ad, τ)) (h1 : kc ≤ 20) (h2 : ks ≤ 1300)
    (hq : ∀ (H : Heap) (t : State), t.heap = H → WP E σ (upI I j (ad, tb σ)) H → va_F A M.2.2.2.2.1 t → Qc M.2.2.2.2.2.2.1 M.2.2.2.2.1 (.returned (some (.int (σ.1 1 0)))) t) : VZ M A 2 kc ks (MQ M.2.2.2.2.2.2.2.1 Qc M.2.2.2.2.2.2.1 M.2.2.2.2.1 20 1300 A) (WP E σ I) 26 [some (.ref (E.2.2 0)), some (.int k)] [] := by
  have hj2 : j < 2 := ix_lt hj
  have hE : Adr YB (eB2 E ad (aT E)) base := AdrOf hA _ (xiB hj2 hI).1 (fun i k hi hk e => by
    have : i < 36 := hi
    have : k < 36 := hk
    split at e <;> split at e <;> omega)
  refine z_aload0 (pc := 26) K.z dX3_keep_26 ?_
  refine z_get (pc := 27) (v := .ref (E.2.2 40)) K fl_RX3_18 dX3_keep_27 (fun H h => h.obj) rfl ?_
  refine z_iload1 (pc := 30) K.z dX3_keep_30 ?_
  refine z_img (pc := 31) (v := .ref (ad 0)) K dX3_keep_31 hj (by rw [hI]; rfl) ?_
  refine z_aload0 (pc := 32) K.z dX3_keep_32 ?_
  refine z_get (pc := 33) (v := .ref (E.2.2 1)) K fl_RX3_14 dX3_keep_33 (fun H h => h.obj) rfl ?_
  refine z_callV (pc := 36) (Y' := YB) (ad' := (eB2 E ad (aT E)).2.2) (i := 0) (ci := 1) (n := 1) (As := [.ref (E.2.2 1)]) (rest := []) (v := none) (τ := sB2 τ (tb σ)) (τ1 := likeR (sB2 τ (tb σ))) (Z1 := WP E σ (upI I j (ad, tb σ))) K ca_yX1_becomeLike ml_RX3_285 (by decide) rfl rfl (t_X1_becomeLike _ K.nt hE _ _ (like_eq _)) rfl rfl (Nat.le_of_ble_eq_true rfl) (by omega) (by omega) h1 h2 dX3_keep_36 (fun H h => wsB (h.2.2 j ad τ hj2 hI) h.two) (fun i hi => hAd _ _ ((xiB hj2 hI).1 i hi)) (fun H H1 h h1 hk _ => h.K hA hj2 hI h1 hk) ?_
  refine z_aload0 (pc := 39) K.z dX3_keep_39 ?_
  refine z_get (pc := 40) (v := .ref (E.2.2 1)) K fl_RX3_14 dX3_keep_40 (fun H h => h.obj) rfl ?_
  refine z_get (pc := 43) (v := .int (σ.1 1 0)) K fl_RX3_76 dX3_keep_43 (fun H h => h.tab) rfl ?_
  exact z_iret (pc := 46) K dX3_keep_46 h1 h2 hq
end KP
def qI (E : Ev) (I : Im) (base sz : Nat) (k : Int32) (σ' : St) (pI : Im → Prop) : Array Value → State → Outcome → State → Prop := fun _ st oc t => (∃ I', oc = .returned (some (.int k)) ∧ pI I' ∧ WP E σ' I' t.heap ∧ AS E I' base ∧ ∀ n q, adx E I' n = some q → AI E I sz q) ∧ va_F (AI E I sz) st t
/-- a contract over the class, its images and the out array -/
def ICtr (l : Launch) (y : MethodName) (w : Cond) (fr lo : Nat) (E : Ev) (base : Nat) (av : List Value) (σ : St) (I : Im) (k : Int32) (σ' : St) (pI : Im → Prop) : Prop :=
  ∀ sz : Nat, Met l y (w :: Gw) { frames := fr, cells := 20, slots := 1300, locals := lo } (va_Pc av (fun U => U.heap.size = sz ∧ base ≤ sz ∧ WP E σ I U.heap ∧ AmbK E base U)) (qI E I base sz k σ' pI) 20 1300 (AI E I sz)
theorem AI_base {E : Ev} {I : Im} {base sz : Nat} (hA : AS E I base) (hb : base ≤ sz) {q : Nat} (h : AI E I sz q) : base ≤ q := h.elim (fun ⟨n, e⟩ => hA.2 n q e) (fun e => Nat.le_trans hb e)
theorem ofI {l : Launch} {y : MethodName} {cc : ByteArray} {nL fr lo : Nat} {E : Ev} {base : Nat} {av : List Value} {σ : St} {I : Im} {k : Int32} {σ' : St} {pI : Im → Prop} {own : String} {L : List (Option Value)} (n : Nat) (hp : plainName y.cls = true) (ho : y.cls = own) (hA : AS E I base) (hnt : l.stackTraces = false) (hlen : (lg_sl av).length ≤ nL) (hL : ent av ++ List.replicate n none = L)
    (body : ∀ M : MT, OKq M E (AI E I M.2.2.2.2.1.heap.size) nL cc own (some .int) base fr lo 20 1300 → VZ M (AI E I M.2.2.2.2.1.heap.size) nL 0 0 (MQ M.2.2.2.2.2.2.2.1 (qI E I base M.2.2.2.2.1.heap.size k σ' pI) M.2.2.2.2.2.2.1 M.2.2.2.2.1 20 1300 (AI E I M.2.2.2.2.1.heap.size)) (WP E σ I) 0 L []) : ICtr l y (.code y cc nL (some .int)) fr lo E base av σ I k σ' pI := by
  intro sz
  refine Met.ofW (cc := cc) (maxL := nL) (ret := some .int) hp rfl ?_
  intro p e s m args below meth c s₁ B hml hv
  obtain ⟨rfl, hsz, hb, hP, hK⟩ := hv
  subst hsz
  have hts : ∀ w ∈ Gw, w.before av.toArray s = true := fun w hw => atoms_spec (ws := Cond.code y cc nL (some .int) :: Gw) B.pre w (List.mem_cons_of_mem _ hw)
  have hk := body (p, l, e, { frames := fr, cells := 20, slots := 1300, locals := lo }, s, m, av.toArray, below, meth, c) ⟨⟨B.exec, B.bytes, hml, B.notSynchronized, by rw [← ho]; exact findClass_of_methodNamed B.named, hts⟩, B.returns, hK, fun q h => Or.inr h, hb, fun q h => AI_base hA hb h, Nat.le_refl _, Nat.le_refl _, Nat.le_refl _, Nat.le_refl _, hnt⟩
  rw [lg_entry_eq]
  refine hk s.heap [] _ hP va_S.rf ?_
  have hl := lv_entry av (n := nL) hlen
  unfold lvL
  rw [← hL, asc_ent]
  exact hl
theorem mem_AI {E : Ev} {I : Im} {sz n a : Nat} (h : adx E I n = some a) : AI E I sz a := Or.inl ⟨n, h⟩
/-- the world between new Table() and its place among the images -/
def Wn (E : Ev) (σ : St) (I : Im) (q : Nat) (e : va_E) (H : Heap) : Prop := (∀ n a, adx E I n = some a → a < q) ∧ WP E σ I H ∧ va_at E.1 vcl (q, e) H
theorem keep_ok (l : Launch) (hnt : l.stackTraces = false) {E : Ev} {base : Nat} {I : Im} (hA : AS E I base) (σ : St) (k : Int32) (j : Nat) (hj : ix k 2 = some j) : ICtr l yX3_keep (.code yX3_keep cX3_keep 2 (some .int)) 7 120 E base [.ref (E.2.2 0), .int k] σ I (σ.1 1 0) σ (fun I' => ∃ ad, I' = upI I j (ad, tb σ)) := by
  have hj2 : j < 2 := ix_lt hj
  refine ofI 0 (by decide +kernel) rfl hA hnt (Nat.le_of_ble_eq_true rfl) rfl (fun M K => ?_)
  refine z_iload1 (pc := 0) K.z dX3_keep_0 ?_
  refine z_callS (pc := 1) (Y' := YC) (ad' := E.2.2) (n := 1) (As := [.int k]) (rest := []) (v := none) (τ := σ) (τ1 := σ) (Z1 := WP E σ I) K ca_yX3_needImage ml_RX3_282 (t_X3_needImage _ K.nt (AdrOC hA.O) σ k (.ok ()) σ (need_ok hj)) rfl rfl (Nat.le_of_ble_eq_true rfl) (by decide) (by decide) (by decide) (by decide) dX3_keep_1 (fun H h => YO_down h.1) (fun i hi => mem_AI (adx_lo (Nat.lt_trans hi (by decide)))) (fun H H1 h h1 hk _ => by have h9 := h.C hA h1 hk; rw [mgO_self] at h9; exact h9) ?_
  refine z_aload0 (pc := 4) K.z dX3_keep_4 ?_
  refine z_get (pc := 5) (v := .ref (E.2.2 40)) K fl_RX3_18 dX3_keep_5 (fun H h => h.obj) rfl ?_
  refine z_iload1 (pc := 8) K.z dX3_keep_8 ?_
  cases hI : I j with
  | some p =>
    obtain ⟨ad, τ⟩ := p
    refine z_img (pc := 9) (v := .ref (ad 0)) K dX3_keep_9 hj (by rw [hI]; rfl) ?_
    refine z_nonnull (pc := 10) (tgt := 26) K.z dX3_keep_10 (by decide) ?_
    refine keep_tail K (by decide) (by decide) hA (fun n a h => mem_AI h) hj hI (by decide) (by decide) (fun H t ht hW hF => ⟨⟨_, rfl, ⟨ad, rfl⟩, by rw [ht]; exact hW, hA.up hI, fun n q h => mem_AI (by rw [adx_up hI] at h; exact h)⟩, hF⟩)
  | none =>
    refine z_img (pc := 9) (v := .null) K dX3_keep_9 hj (by rw [hI]; rfl) ?_
    refine z_nonnullN (pc := 10) K.z dX3_keep_10 ?_
    refine z_aload0 (pc := 13) K.z dX3_keep_13 ?_
    refine z_get (pc := 14) (v := .ref (E.2.2 40)) K fl_RX3_18 dX3_keep_14 (fun H h => h.obj) rfl ?_
    refine z_iload1 (pc := 17) K.z dX3_keep_17 ?_
    refine z_new (pc := 18) (ci := 1) (fs := [.int 0, .int 0, .null, .null, .null]) (Zn := fun q H => (base ≤ q ∧ M.2.2.2.2.1.heap.size ≤ q ∧ ∀ n a, adx E I n = some a → a < q) ∧ WP E σ I H ∧ va_at E.1 vcl (q, .inr (1, [.int 0, .int 0, .null, .null, .null])) H) K rfl inG_RX1 tyX1_ok kn_RX1 ki_RX1 kz_RX1 (fun j hj => by rcases (show j = 0 ∨ j = 1 ∨ j = 2 ∨ j = 3 ∨ j = 4 by omega) with rfl | rfl | rfl | rfl | rfl <;> rfl) dX3_keep_18 (by decide) (by decide) (fun H H1 h h1 ho hz hm => ⟨⟨Nat.le_trans K.bs hm, hm, fun n a ha => h.lt ha⟩, h.kept (fun n a ha => ho a (h.lt ha)), h1⟩) (fun q hAq => ?_)
    refine z_fact (fun hF => ?_)
    obtain ⟨hbq, hmq, hlt⟩ := hF
    refine z_dupR (pc := 21) K.z dX3_keep_21 ?_
    refine z_init (pc := 22) (host := "SliceColumns") (Zn := fun w H => ((∀ (i : Nat) (x : Nat × va_E), w[i]? = some x → q ≤ x.1) ∧ ∀ (i j : Nat) (x y : Nat × va_E), w[i]? = some x → w[j]? = some y → x.1 = y.1 → i = j) ∧ WP E σ I H ∧ va_P E.1 vcl w H) K kc_RX1 (by decide +kernel) (k_X1 _ E base) hAq (Nat.le_of_ble_eq_true rfl) (by decide) (by decide) (by decide) (by decide) dX3_keep_22 (fun H h => h.2) (fun H H1 w h hw hP hD hk hz hm => ⟨⟨fun i x hx => (hD.2 i x hx).elim (fun e => Nat.le_of_eq e.symm) (fun e => by have := h.2.lt; omega), hD.1⟩, h.1.kept (fun n a ha => hk a (h.1.lt ha) (fun z => z.elim (fun e => by have := hlt n a ha; omega) (fun e => by have := h.1.lt ha; omega))), hP⟩) (fun w hw => ?_)
    refine z_fact (fun hF => ?_)
    obtain ⟨hge, hinj⟩ := hF
    obtain ⟨ad, e0, hwa, hT⟩ := newT hw
    subst e0
    have hA' : AS E (upI I j (ad, zSt)) base := hA.new hj2 hbq hlt (fun i hi => by obtain ⟨e, he⟩ := hwa i hi; exact hge i _ he) (fun i k hi hk e => by
      obtain ⟨x, hx⟩ := hwa i hi
      obtain ⟨y, hy⟩ := hwa k hk
      exact hinj i k _ _ hx hy e)
    have hI' : upI I j (ad, zSt) j = some (ad, zSt) := upI_eq
    refine z_aast (pc := 25) (n := 2) (j := j) (f := imf I) (vs := fvs (eT E ad) zSt 0 0 (fldB 0)) (Z1 := WP E σ (upI I j (ad, zSt))) K dX3_keep_25 (fun H h => h.1.im) (fun H h => wsP.mp (hT H h.2) 0 (by decide)) hj (mem_AI adx_40) (fun H H1 h hc ho _ => ?_) ?_
    · have off : ∀ n a, n ≠ 40 → adx E I n = some a → H1[a]? = H[a]? := fun n a hn ha => ho a (fun e => hn (hA.1 n 40 a ha (by rw [adx_40, e])))
      refine ⟨wsP.mpr fun i hi => (wsP.mp h.1.1 i hi).kept (off i _ (by have : i < 29 := hi; omega) (adx_lo hi)), ?_, fun k ad' τ' hk2 hI9 => ?_⟩
      · have e : imcell E (upI I j (ad, zSt)) = .inl (E.2.1 4, 2, .inr (.inr (.inr (.inr (va_up (imf I) j (some (ad 0))))))) := by
          unfold imcell
          have e1 : (fun k => (upI I j (ad, zSt) k).map (fun p => p.1 0)) = va_up (imf I) j (some (ad 0)) := by
            funext k
            by_cases hk : k = j
            · subst hk; rw [upI_eq]; simp [va_up]
            · rw [upI_ne hk]; simp [va_up, hk, imf]
          rw [e1]
        rw [e]
        exact hc
      · by_cases hkj : k = j
        · subst hkj
          rw [upI_eq] at hI9
          cases hI9
          exact wsP.mpr fun i hi => (wsP.mp (hT H h.2) i hi).kept (ho _ (fun e => by
            obtain ⟨x, hx⟩ := hwa i hi
            have h1 := hge i _ hx
            have h2 := hlt 40 _ adx_40
            have e' : ad i = E.2.2 40 := e
            have h1' : ad 0 ≤ ad i := h1
            omega))
        · rw [upI_ne hkj] at hI9
          exact wsP.mpr fun i hi => (wsP.mp (h.1.2.2 k ad' τ' hk2 hI9) i hi).kept (off _ _ (by omega) (adx_im hk2 hi hI9))
    · have hAI : ∀ n a, adx E (upI I j (ad, zSt)) n = some a → AI E I M.2.2.2.2.1.heap.size a := by
        intro n a h
        rcases adx_new hj2 h with ⟨-, h2⟩ | ⟨i, h1, -, h3⟩
        · exact mem_AI h2
        · obtain ⟨x, hx⟩ := hwa i h1
          have h4 : ad 0 ≤ ad i := hge i _ hx
          exact Or.inr (by omega)
      refine keep_tail K (by decide) (by decide) hA' hAI hj hI' (by decide) (by decide) (fun H t ht hW hF => ⟨⟨_, rfl, ⟨ad, ?_⟩, by rw [ht]; exact hW, hA'.up hI', fun n q h => hAI n q (by rw [adx_up hI'] at h; exact h)⟩, hF⟩)
      funext k
      by_cases hk : k = j
      · subst hk; rw [upI_eq, upI_eq]
      · rw [upI_ne hk, upI_ne hk, upI_ne hk]
