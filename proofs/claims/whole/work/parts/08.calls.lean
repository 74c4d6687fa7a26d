/-! ===== LAYER 1: ends, throws, calls, catching ===== -/
theorem isNw_tab {w : Cond} (h : isNw w = true) : w.onTables = true := by
  cases w <;> first | rfl | (simp [isNw] at h)
theorem nw_use {G : mG} {U : State} {A : Array Value} (h : Ev G U) {w : Cond} (hw : w ∈ nw) : w.before A U = true := va_Nw.use (isNw_tab (List.mem_filter.mp hw).2) (h.2.2.2.2.2.2.1 w hw)
theorem nw_at {G : mG} {U : State} (h : Ev G U) {w : Cond} (hw : w ∈ nw) : va_Nw w U := h.2.2.2.2.2.2.1 w hw
theorem Rep.thrown {G : mG} {Z : mZ} {M : mM} {H H1 : Heap} (h : Rep G Z M H) (hro : ∀ r, r < 5 → gO G r < gB G) (hz : H.size ≤ H1.size) (hq : ∀ q, q < H.size → H1[q]? = H[q]?) : Rep G Z (sT M) H1 := by
  obtain ⟨a1, a2, a3, a4, -⟩ := h
  refine ⟨fun r hr => (a1 r hr).kept (hq _ ?_), fun r h8 hr => ?_, a3, Nat.le_trans a4 hz, fun h => absurd (show (1 : Nat) = 0 from h) (by decide)⟩
  · have := hro r hr; omega
  · exact ((a2 r h8 hr).kept (hq _ (by rw [m_ad_hi h8]; omega))).mem (fun _ => rfl) (fun _ => rfl) (fun _ => rfl)
def okT (own : String) (ik ic : Nat) (cls : String) (names : List String) : Bool :=
  Bundle.fit cls && names.all Bundle.fit && decide (Cond.classLink own ik cls ∈ gw) && decide (Cond.initialized cls ∈ gw) && (vx_at0 own ic cls names).all (fun w => decide (w ∈ gw) || decide (w ∈ nw)) && (Cond.classLink own ik cls :: Cond.initialized cls :: vx_at0 own ic cls names).all vx_ot
def okV (own : String) (idx : Nat) (y : MethodName) (w0 : Cond) : Bool :=
  decide (Cond.methodLink own idx y ∈ gw) && decide (Cond.instanceMethod y ∈ gw) && decide (Cond.selects y.cls y y ∈ gw) && decide (Cond.initialized y.cls ∈ gw) && decide (w0 ∈ gw)
def okS (own : String) (idx : Nat) (y : MethodName) (w0 : Cond) : Bool :=
  decide (Cond.methodLink own idx y ∈ gw) && decide (Cond.static y ∈ gw) && decide (Cond.initialized y.cls ∈ gw) && decide (w0 ∈ gw)
def okSN (own : String) (idx : Nat) (y : MethodName) (host : String) (w0 : Cond) : Bool :=
  decide (Cond.methodLinkNest own idx y host ∈ nw) && decide (Cond.static y ∈ gw) && decide (Cond.initialized y.cls ∈ gw) && decide (w0 ∈ gw)
def okN (own : String) (idx : Nat) (y : MethodName) (w0 : Cond) : Bool :=
  decide (Cond.methodLink own idx y ∈ gw) && decide (Cond.instanceMethod y ∈ gw) && decide (Cond.initialized y.cls ∈ gw) && decide (w0 ∈ gw) && decide (y.name = "<init>")
def okNN (own : String) (idx : Nat) (y : MethodName) (host : String) (w0 : Cond) : Bool :=
  decide (Cond.methodLinkNest own idx y host ∈ nw) && decide (Cond.instanceMethod y ∈ gw) && decide (Cond.initialized y.cls ∈ gw) && decide (w0 ∈ gw) && decide (y.name = "<init>")
def okY (y : MethodName) (n : Nat) : Prop := y.cls ≠ "java/lang/invoke/MethodHandle" ∧ y.cls ≠ "java/lang/invoke/VarHandle" ∧ (parseMethodDescriptor y.desc).map (fun d => d.parameters.length) = some n
theorem gw_cons {w0 : Cond} (h : w0 ∈ gw) : GoodIn gw (w0 :: gw) := fun w hw => by
  rcases List.mem_cons.mp hw with rfl | hw
  · exact gw_good _ h
  · exact gw_good _ hw
theorem lv_args_cv {G : mG} (a : List Value) : ∀ i, lv_args i (a.map (m_cv G)) = m_cl2 G (lv_args i a) := by
  induction a with
  | nil => intro i; rfl
  | cons v t ih =>
    intro i
    show (i, m_cv G v) :: lv_args _ (t.map (m_cv G)) = (i, m_cv G v) :: m_cl2 G (lv_args _ t)
    rw [ih, m_cv_cat]
theorem cats_cv {G : mG} (a : List Value) : ((a.map (m_cv G)).map fun v => v.category).sum = (a.map fun v => v.category).sum := by
  rw [List.map_map]
  congr 1
  apply List.map_congr_left
  intro v _
  exact m_cv_cat G v
theorem sl_cv {G : mG} (a : List Value) : (lg_sl (a.map (m_cv G))).length = (a.map fun v => v.category).sum := by
  induction a with
  | nil => rfl
  | cons v t ih =>
    have e : lg_sl ((v :: t).map (m_cv G)) = (if (m_cv G v).category = 2 then [Slot.val (m_cv G v), .second] else [.val (m_cv G v)]) ++ lg_sl (t.map (m_cv G)) := by simp [lg_sl]
    rw [e, List.length_append, ih, List.map_cons, List.sum_cons, m_cv_cat]
    rcases lv_cat v with h | h <;> simp [h]
section JR4
variable {G : mG} {p : Program} {l : Launch} {e : Env} {R : Room} {s : State} {m : MethodId} {args : Array Value} {below : List Frame} {meth : Method} {c : Code} {nL k n : Nat} {Q : State → Prop} {own : String} {cc : ByteArray} {ret : Option FieldType} {tb : List ExceptionTableEntry}
variable {pc : Nat} {L : mL} {st : List Value} {Z Z1 : mZ} {M M1 : mM} {rm : Room}
theorem j_iret (C : Cx G p l s m args meth c own cc nL ret tb) {v : Int32} (hr : ret = some .int) (hk : k ≤ rm.cells) (hn : n ≤ rm.slots) (d : decode cc pc = .ok (.ireturn, 1)) : JJ G p l e R s m args below meth c nL (mEnd G below args s rm (.inl (some (.int v))) Z M) k n pc L [.int v] Z M :=
  fun H locs ls hR hS hL => W.widen hk hn (vx_ret (W.iret C.1 C.2.1 (C.2.2.2.2.2.2.2.1.trans hr) (fun t ht hW => ⟨⟨some (.int v), rfl, rfl⟩, by rw [ht]; exact hR, hS.F ht⟩) hS.2.2 d C.2.2.2.2.2.1))
theorem j_zret (C : Cx G p l s m args meth c own cc nL ret tb) {v : Int32} (hr : ret = some .boolean) (hv : v = 0 ∨ v = 1) (hk : k ≤ rm.cells) (hn : n ≤ rm.slots) (d : decode cc pc = .ok (.ireturn, 1)) : JJ G p l e R s m args below meth c nL (mEnd G below args s rm (.inl (some (.int v))) Z M) k n pc L [.int v] Z M :=
  fun H locs ls hR hS hL => W.widen hk hn (vx_ret (W.zret (ty := .boolean) C.1 C.2.1 (C.2.2.2.2.2.2.2.1.trans hr) (by rcases hv with rfl | rfl <;> rfl) (fun t ht hW => ⟨⟨some (.int v), rfl, rfl⟩, by rw [ht]; exact hR, hS.F ht⟩) hS.2.2 d C.2.2.2.2.2.1))
theorem j_vret (C : Cx G p l s m args meth c own cc nL ret tb) (hr : ret = none) (hk : k ≤ rm.cells) (hn : n ≤ rm.slots) (d : decode cc pc = .ok (.return_, 1)) : JJ G p l e R s m args below meth c nL (mEnd G below args s rm (.inl none) Z M) k n pc L [] Z M :=
  fun H locs ls hR hS hL => W.widen hk hn (vx_ret (W.vret C.1 C.2.1 (C.2.2.2.2.2.2.2.1.trans hr) (fun t ht hW => ⟨⟨none, rfl, rfl⟩, by rw [ht]; exact hR, hS.F ht⟩) hS.2.2 d C.2.2.2.2.2.1))
theorem j_fret (C : Cx G p l s m args meth c own cc nL ret tb) {v : UInt32} (hr : ret = some .float) (hk : k ≤ rm.cells) (hn : n ≤ rm.slots) (d : decode cc pc = .ok (.freturn, 1)) : JJ G p l e R s m args below meth c nL (mEnd G below args s rm (.inl (some (.float v))) Z M) k n pc L [.float v] Z M :=
  fun H locs ls hR hS hL => W.widen hk hn (vx_ret (W.fret C.1 C.2.1 (C.2.2.2.2.2.2.2.1.trans hr) (fun t ht hW => ⟨⟨some (.float v), rfl, rfl⟩, by rw [ht]; exact hR, hS.F ht⟩) hS.2.2 d C.2.2.2.2.2.1))
theorem j_dret (C : Cx G p l s m args meth c own cc nL ret tb) {v : UInt64} (hr : ret = some .double) (hk : k ≤ rm.cells) (hn : n ≤ rm.slots) (d : decode cc pc = .ok (.dreturn, 1)) : JJ G p l e R s m args below meth c nL (mEnd G below args s rm (.inl (some (.double v))) Z M) k n pc L [.double v] Z M :=
  fun H locs ls hR hS hL => W.widen hk hn (vx_ret (W.dret C.1 C.2.1 (C.2.2.2.2.2.2.2.1.trans hr) (fun t ht hW => ⟨⟨some (.double v), rfl, rfl⟩, by rw [ht]; exact hR, hS.F ht⟩) hS.2.2 d C.2.2.2.2.2.1))
theorem j_aret (C : Cx G p l s m args meth c own cc nL ret tb) {q : Nat} {nm : String} (hr : ret = some (.object nm)) (hk : k ≤ rm.cells) (hn : n ≤ rm.slots) (d : decode cc pc = .ok (.areturn, 1)) : JJ G p l e R s m args below meth c nL (mEnd G below args s rm (.inl (some (.ref q))) Z M) k n pc L [.ref q] Z M :=
  fun H locs ls hR hS hL => W.widen hk hn (vx_ret (W.aret C.1 C.2.1 (C.2.2.2.2.2.2.2.1.trans hr) (Or.inl ⟨_, rfl⟩) (Or.inr ⟨_, rfl⟩) (fun t ht hW => ⟨⟨some (.ref q), rfl, rfl⟩, by rw [ht]; exact hR, hS.F ht⟩) hS.2.2 d C.2.2.2.2.2.1))
theorem j_aretN (C : Cx G p l s m args meth c own cc nL ret tb) {nm : String} (hr : ret = some (.object nm)) (hk : k ≤ rm.cells) (hn : n ≤ rm.slots) (d : decode cc pc = .ok (.areturn, 1)) : JJ G p l e R s m args below meth c nL (mEnd G below args s rm (.inl (some .null)) Z M) k n pc L [.null] Z M :=
  fun H locs ls hR hS hL => W.widen hk hn (vx_ret (W.aret C.1 C.2.1 (C.2.2.2.2.2.2.2.1.trans hr) (Or.inl ⟨_, rfl⟩) (Or.inl rfl) (fun t ht hW => ⟨⟨some .null, rfl, rfl⟩, by rw [ht]; exact hR, hS.F ht⟩) hS.2.2 d C.2.2.2.2.2.1))
theorem j_throw (C : Cx G p l s m args meth c own cc nL ret []) {cls : String} {names : List String} {ik ic : Nat} (ok : okT own ik ic cls names = true) (hf : names.length + 3 < R.frames) (hlo : (st.map fun v => v.category).sum + (13 * (names.length + 1) + 42) ≤ R.locals) (hroom : k + 1 ≤ R.cells ∧ n + 6 ≤ R.slots) (hk : k + 1 ≤ rm.cells) (hn : n + 6 ≤ rm.slots)
    (d0 : decode cc pc = .ok (.new ik, 3)) (d3 : decode cc (pc + 3) = .ok (.dup, 1)) (d4 : decode cc (pc + 4) = .ok (.invokespecial ic, 3)) (d7 : decode cc (pc + 7) = .ok (.athrow, 1)) : JJ G p l e R s m args below meth c nL (mEnd G below args s rm (.inr cls) Z (sT M)) k n pc L st Z M := by
  intro H locs ls hR hS hL
  simp only [okT, Bool.and_eq_true, decide_eq_true_eq] at ok
  obtain ⟨⟨⟨⟨⟨ok1, ok2⟩, ok3⟩, ok4⟩, ok5⟩, ok6⟩ := ok
  have hE := C.2.2.2.2.2.2.1
  have hts := C.2.2.2.2.1
  refine vx_throw0 (A := gA G) C.1 C.2.1 C.2.2.2.2.2.2.2.2.1 C.2.2.2.1 ok1 (fun q hq => List.all_eq_true.mp ok2 q hq) (hts _ ok3) (hts _ ok4) (fun w hw => ?_) (fun w hw => List.all_eq_true.mp ok6 w hw) hE.2.2.2.1 hE.2.2.2.2.1 hS (hL.1.trans C.2.2.1.symm) d0 d3 d4 d7 (fun x hx => ?_) hf (by rw [cats_cv]; exact hlo) hroom.1 hroom.2 C.2.2.2.2.2.1 (fun t hal hz hq => ?_) hS.2.2 hk hn
  · have h1 := List.all_eq_true.mp ok5 w hw
    simp only [Bool.or_eq_true, decide_eq_true_eq] at h1
    rcases h1 with h1 | h1
    · exact hts _ h1
    · exact nw_use hE h1
  · rw [C.2.2.2.2.2.2.2.2.2] at hx
    cases hx
  · refine ⟨rfl, hR.thrown hE.ro hz hq, Nat.le_trans hS.1 hz, fun q h1 h2 => ?_⟩
    rw [hq q (Nat.lt_of_lt_of_le h1 hS.1)]
    exact hS.2.1 q h1 h2
theorem j_objInit (C : Cx G p l s m args meth c own cc nL ret tb) {idx b : Nat} (hw : Cond.methodLink own idx Lib.objectInit ∈ gw ∧ Cond.instanceMethod Lib.objectInit ∈ gw ∧ Cond.code Lib.objectInit ⟨#[0xb1]⟩ 1 none ∈ gw) (hf : 1 ≤ R.frames) (hlo : (st.map fun v => v.category).sum + 12 ≤ R.locals) (d : decode cc pc = .ok (.invokespecial idx, 3))
    (kk : JJ G p l e R s m args below meth c nL Q k n (pc + 3) L st Z M) : JJ G p l e R s m args below meth c nL Q k n pc L (.ref b :: st) Z M := by
  intro H locs ls hR hS hL
  have hts := C.2.2.2.2.1
  refine W.objInit C.1 C.2.1 C.2.2.2.1 (hts _ hw.1) (hts _ hw.2.1) (hts _ hw.2.2) rfl (hL.1.trans C.2.2.1.symm) rfl d hf ?_ (kk H locs ls hR hS hL)
  rw [cats_cv]
  show 2 * 0 + _ + 12 ≤ _
  omega
/-- what a run of a callee owes here, whatever the kind of the call -/
def CRun (G : mG) (p : Program) (l : Launch) (e : Env) (R : Room) (s : State) (m : MethodId) (args : Array Value) (below : List Frame) (meth : Method) (c : Code) (nL k n pc : Nat) (L : mL) (st rest : List Value) (Z : mZ) (M : mM) (rm : Room) (o : mO) (Z1 : mZ) (M1 : mM) : Prop :=
  ∀ (H : Heap) (locs : List Loc) (ls : Array Slot), Rep G Z M H → va_S (gA G) s.heap H locs → lv_has ls nL (m_cl2 G L) →
    ∃ a, vx_Run p l e R s m args below meth c H locs k n rm.cells rm.slots (F0 m pc ls (st.map (m_cv G))) (rest.map (m_cv G)) (mQc G o Z1 M1 a) (mXC G o Z1 M1) (gA G)
theorem j_run {v : Option Value} {rest : List Value} (h : CRun G p l e R s m args below meth c nL k n pc L st rest Z M rm (.inl v) Z1 M1)
    (kk : JJ G p l e R s m args below meth c nL Q (k + rm.cells) (n + rm.slots) (pc + 3) L (v.toList ++ rest) Z1 M1) : JJ G p l e R s m args below meth c nL Q k n pc L st Z M := by
  intro H locs ls hR hS hL
  obtain ⟨a, hrun⟩ := h H locs ls hR hS hL
  intro T hT X
  rcases hrun T hT X with ⟨v', st₀, t, T', Lc, h0, X', hLb, e1, e2, ⟨⟨v2, hv2, hoc⟩, hR1, hF⟩, hgo⟩ | ⟨q, st₀, t, T', Lc, E, ce, h0, X', hLb, e1, e2, ⟨hx, -⟩, -⟩
  · cases hv2
    cases hoc
    obtain ⟨-, -, k3⟩ := vx_keep h0 e1 hS (fun _ _ h => h) (fun _ h => h) hLb hF
    obtain ⟨t2, a1, b1⟩ := kk T'.heap (locs ++ Lc) ls (by rw [e1]; exact hR1) k3 hL T' rfl X'
    refine ⟨t2, hgo t2 ?_, b1⟩
    rw [List.map_append] at a1
    cases v <;> exact a1
  · cases hx
/-- thrown by the callee, caught here by the row x, kept in a local that nobody reads -/
theorem j_caught (C : Cx G p l s m args meth c own cc nL ret tb) {E : String} {rest : List Value} (h : CRun G p l e R s m args below meth c nL k n pc L st rest Z M rm (.inr E) Z1 M1)
    (pre : List ExceptionTableEntry) (x : ExceptionTableEntry) (suf : List ExceptionTableEntry) (nms : List String) (hsplit : tb = pre ++ x :: suf) (hpass : pre.length = nms.length ∧ (pre.zip nms).all (fun q => covers q.1 pc = false || (decide (q.1.catchType ≠ 0) && decide (Cond.classLink own q.1.catchType q.2 ∈ gw) && decide ((E, q.2) ∈ ncs))) = true)
    (hx : covers x pc = true) (h0 : x.catchType ≠ 0) (hlink : Cond.classLink own x.catchType E ∈ gw) (hcast : Cond.castable E E ∈ nw) {i1 ln : Nat} (hi : i1 < nL) (dh : (∃ k1 : Fin 4, (k1 : Nat) = i1 ∧ ln = 1 ∧ decode cc x.handlerPc = .ok (.astore_n k1, 1)) ∨ (ln = 2 ∧ decode cc x.handlerPc = .ok (.astore i1, 2)))
    (kk : JJ G p l e R s m args below meth c nL Q (k + rm.cells) (n + rm.slots) (x.handlerPc + ln) (L.filter (m_f1 i1)) [] Z1 M1) : JJ G p l e R s m args below meth c nL Q k n pc L st Z M := by
  intro H locs ls hR hS hL
  obtain ⟨a, hrun⟩ := h H locs ls hR hS hL
  intro T hT X
  have hE := C.2.2.2.2.2.2.1
  have hts := C.2.2.2.2.1
  rcases hrun T hT X with ⟨v', st₀, t, T', Lc, h0', X', hLb, e1, e2, ⟨⟨v2, hv2, hoc⟩, hR1, hF⟩, hgo⟩ | ⟨q, st₀, t, T', Lc, E', ce, h0', X', hLb, e1, e2, ⟨hxo, hR1, hF⟩, hce, hcv, hcl, hst⟩
  · cases hv2
  · cases hxo
    obtain ⟨-, -, k3⟩ := vx_keep h0' e1 hS (fun _ _ h => h) (fun _ h => h) hLb hF
    have hfin : ∀ ls', lv_has ls' nL ((i1, Value.ref q) :: (m_cl2 G L).filter (fun q => !(q.1 == i1) && !(q.1 + 1 == i1 && q.2.category == 2))) → W p l e R s m args below meth c T'.heap (locs ++ Lc) (k + rm.cells) (n + rm.slots) Q (F0 m (x.handlerPc + ln) ls' []) := by
      intro ls' h'
      have hl2 : lv_has ls' nL (m_cl2 G (L.filter (m_f1 i1))) := by
        rw [← m_cl2_f1]
        exact ⟨h'.1, h'.2.1, fun q hq => h'.2.2 q (List.mem_cons_of_mem _ hq)⟩
      exact kk T'.heap (locs ++ Lc) ls' (by rw [e1]; exact hR1) k3 hl2
    have hW : W p l e R s m args below meth c T'.heap (locs ++ Lc) (k + rm.cells) (n + rm.slots) Q (F0 m x.handlerPc ls [.ref q]) := by
      rcases dh with ⟨k1, hk1, rfl, dh⟩ | ⟨rfl, dh⟩
      · exact lv_astore_n C.1 C.2.1 dh hk1 hL hi rfl (fun ls' h' => hfin ls' h')
      · exact lv_astore C.1 C.2.1 dh hL hi rfl (fun ls' h' => hfin ls' h')
    have hcx : vx_W p l e R s m args below meth c T'.heap (locs ++ Lc) (k + rm.cells) (n + rm.slots) Q (F0 m pc ls (rest.map (m_cv G))) q := by
      refine vx_catch (name := E) C.2.2.2.1 pre x suf (C.2.2.2.2.2.2.2.2.2.trans hsplit) (fun z hz => ?_) hx h0 (hts _ hlink) (nw_use hE hcast) (by rw [e1]; exact hce) hcv hcl hW
      obtain ⟨i, hi1⟩ := List.getElem?_of_mem hz
      have hil := (List.getElem?_eq_some_iff.mp hi1).1
      have hz2 : (z, nms[i]'(by rw [← hpass.1]; exact hil)) ∈ pre.zip nms := by
        refine List.mem_of_getElem? (i := i) ?_
        rw [List.getElem?_zip_eq_some]
        exact ⟨hi1, List.getElem?_eq_getElem _⟩
      have h9 := List.all_eq_true.mp hpass.2 _ hz2
      simp only [Bool.or_eq_true, Bool.and_eq_true, decide_eq_true_eq] at h9
      rcases h9 with h9 | ⟨⟨h9, h8⟩, h7⟩
      · exact Or.inl h9
      · exact Or.inr ⟨h9, _, hts _ h8, hE.2.2.2.2.2.2.2.1 _ h7⟩
    obtain ⟨t2, a1, b1⟩ := hcx T' rfl X'
    exact ⟨t2, hst.trans a1, b1⟩
theorem mPc_at (C : Cx G p l s m args meth c own cc nL ret tb) {a : List Value} {H : Heap} {locs : List Loc} (hR : Rep G Z M H) (hS : va_S (gA G) s.heap H locs) : ∀ U : State, U.heap = H → s.WarmedH U.vm → mPc G a Z M (a.map (m_cv G)).toArray U :=
  fun U hU hW => ⟨rfl, C.2.2.2.2.2.2.1.trans hW (by rw [hU]; exact hS.1) (fun q h1 h2 => by rw [hU]; exact hS.2.1 q h1 h2), by rw [hU]; exact hR⟩
variable {y : MethodName} {bytes : ByteArray} {maxL idx b ci : Nat} {ret1 : Option FieldType} {As rest : List Value} {o : mO}
theorem c_V (C : Cx G p l s m args meth c own cc nL ret tb) (hct : CT G l y (.code y bytes maxL ret1) rm (.ref b :: As) Z M o Z1 M1) (ok : okV own idx y (.code y bytes maxL ret1) = true) (hy : okY y As.length) {T : u_T} {N : Nat} (hc : m_cl[ci]? = some (y.cls, T, N)) (hci : ci < 20) (hb : okO Z b ci = true)
    (hR : rm.frames + 1 ≤ R.frames ∧ 8 + (maxL + 11) + rm.locals ≤ R.locals) (hroom : k + rm.cells ≤ R.cells ∧ n + rm.slots ≤ R.slots) (hrest : (rest.map fun v => v.category).sum ≤ 8) (hst : st = As.reverse ++ .ref b :: rest) (d : decode cc pc = .ok (.invokevirtual idx, 3)) : CRun G p l e R s m args below meth c nL k n pc L st rest Z M rm o Z1 M1 := by
  intro H locs ls hRp hS hL
  simp only [okV, Bool.and_eq_true, decide_eq_true_eq] at ok
  obtain ⟨⟨⟨⟨ok1, ok2⟩, ok3⟩, ok4⟩, ok5⟩ := ok
  have hE := C.2.2.2.2.2.2.1
  obtain ⟨cell, q1, q2, q3, -⟩ := hRp.obj hb hci
  refine ⟨_, vx_runV (C := y.cls) (b := m_ad G b) (As := As.map (m_cv G)) (n := As.length) ⟨C.1, C.2.1, C.2.2.1, C.2.2.2.1, C.2.2.2.2.1⟩ hct (cwV (ws' := gw) As.length C.2.2.2.2.1 (fun w hw => ?_) rfl rfl rfl ⟨rfl, hy⟩ hR) ⟨mPc_blind, ⟨cell, q1, by rw [q3]; rfl, by rw [q2]; exact (hE.1.1 ci _ hc).2.1⟩, mPc_at C (a := .ref b :: As) hRp hS⟩ rfl (List.length_map _) hL.1 ?_ (lv_room (by rw [cats_cv]; exact hrest)) d hroom⟩
  · simp only [wsV, List.mem_append, List.mem_cons, List.not_mem_nil, or_false] at hw
    rcases hw with (rfl | rfl | rfl | rfl) | rfl | hw
    · exact gw_good _ ok1
    · exact gw_good _ ok2
    · exact gw_good _ ok3
    · exact gw_good _ ok4
    · exact gw_good _ ok5
    · exact gw_good _ hw
  · show st.map (m_cv G) = _
    rw [hst, List.map_append, List.map_reverse]; rfl
theorem c_S (C : Cx G p l s m args meth c own cc nL ret tb) (hct : CT G l y (.code y bytes maxL ret1) rm As Z M o Z1 M1) (ok : okS own idx y (.code y bytes maxL ret1) = true) (hy : okY y As.length)
    (hR : rm.frames + 1 ≤ R.frames ∧ 8 + (maxL + 11) + rm.locals ≤ R.locals) (hroom : k + rm.cells ≤ R.cells ∧ n + rm.slots ≤ R.slots) (hrest : (rest.map fun v => v.category).sum ≤ 8) (hst : st = As.reverse ++ rest) (d : decode cc pc = .ok (.invokestatic idx, 3)) : CRun G p l e R s m args below meth c nL k n pc L st rest Z M rm o Z1 M1 := by
  intro H locs ls hRp hS hL
  simp only [okS, Bool.and_eq_true, decide_eq_true_eq] at ok
  obtain ⟨⟨⟨ok1, ok2⟩, ok3⟩, ok4⟩ := ok
  refine ⟨_, vx_runS (As := As.map (m_cv G)) (n := As.length) ⟨C.1, C.2.1, C.2.2.1, C.2.2.2.1, C.2.2.2.2.1⟩ hct (va_cwS (ws' := gw) As.length C.2.2.2.2.1 (fun w hw => ?_) rfl rfl rfl hy hR) ⟨mPc_blind, mPc_at C (a := As) hRp hS⟩ rfl (List.length_map _) hL.1 ?_ (lv_room (by rw [cats_cv]; exact hrest)) d hroom⟩
  · simp only [va_wsS, List.mem_append, List.mem_cons, List.not_mem_nil, or_false] at hw
    rcases hw with (rfl | rfl | rfl) | rfl | hw
    · exact gw_good _ ok1
    · exact gw_good _ ok2
    · exact gw_good _ ok3
    · exact gw_good _ ok4
    · exact gw_good _ hw
  · show st.map (m_cv G) = _
    rw [hst, List.map_append, List.map_reverse]
theorem c_SN (C : Cx G p l s m args meth c own cc nL ret tb) (hct : CT G l y (.code y bytes maxL ret1) rm As Z M o Z1 M1) {host : String} (ok : okSN own idx y host (.code y bytes maxL ret1) = true) (hy : okY y As.length)
    (hR : rm.frames + 1 ≤ R.frames ∧ 8 + (maxL + 11) + rm.locals ≤ R.locals) (hroom : k + rm.cells ≤ R.cells ∧ n + rm.slots ≤ R.slots) (hrest : (rest.map fun v => v.category).sum ≤ 8) (hst : st = As.reverse ++ rest) (d : decode cc pc = .ok (.invokestatic idx, 3)) : CRun G p l e R s m args below meth c nL k n pc L st rest Z M rm o Z1 M1 := by
  intro H locs ls hRp hS hL
  simp only [okSN, Bool.and_eq_true, decide_eq_true_eq] at ok
  obtain ⟨⟨⟨ok1, ok2⟩, ok3⟩, ok4⟩ := ok
  have hts := C.2.2.2.2.1
  refine ⟨_, vx_runSN (As := As.map (m_cv G)) (n := As.length) ⟨C.1, C.2.1, C.2.2.1, C.2.2.2.1, hts⟩ hct ⟨va_cnB (ws' := gw) As.length hts (gw_cons ok4) rfl rfl rfl (nw_at C.2.2.2.2.2.2.1 ok1) (hts _ ok3) hy hR, hts _ ok2, trivial⟩ ⟨mPc_blind, mPc_at C (a := As) hRp hS⟩ rfl (List.length_map _) hL.1 ?_ (lv_room (by rw [cats_cv]; exact hrest)) d hroom⟩
  show st.map (m_cv G) = _
  rw [hst, List.map_append, List.map_reverse]
theorem c_I (C : Cx G p l s m args meth c own cc nL ret tb) (hct : CT G l y (.code y bytes maxL none) rm (.ref b :: As) Z M o Z1 M1) (ok : okN own idx y (.code y bytes maxL none) = true) (hy : okY y As.length)
    (hR : rm.frames + 1 ≤ R.frames ∧ 8 + (maxL + 11) + rm.locals ≤ R.locals) (hroom : k + rm.cells ≤ R.cells ∧ n + rm.slots ≤ R.slots) (hrest : (rest.map fun v => v.category).sum ≤ 8) (hst : st = As.reverse ++ .ref b :: rest) (d : decode cc pc = .ok (.invokespecial idx, 3)) : CRun G p l e R s m args below meth c nL k n pc L st rest Z M rm o Z1 M1 := by
  intro H locs ls hRp hS hL
  simp only [okN, Bool.and_eq_true, decide_eq_true_eq] at ok
  obtain ⟨⟨⟨⟨ok1, ok2⟩, ok3⟩, ok4⟩, ok5⟩ := ok
  have hts := C.2.2.2.2.1
  refine ⟨_, vx_runI (b := m_ad G b) (As := As.map (m_cv G)) (n := As.length) ⟨C.1, C.2.1, C.2.2.1, C.2.2.2.1, hts⟩ hct (cwI (ws' := gw) As.length hts (gw_cons ok4) rfl rfl rfl (hts _ ok3) (hts _ ok1) (hts _ ok2) ok5 hy hR) ⟨mPc_blind, mPc_at C (a := .ref b :: As) hRp hS⟩ rfl (List.length_map _) hL.1 ?_ (lv_room (by rw [cats_cv]; exact hrest)) d hroom⟩
  show st.map (m_cv G) = _
  rw [hst, List.map_append, List.map_reverse]; rfl
theorem c_IN (C : Cx G p l s m args meth c own cc nL ret tb) (hct : CT G l y (.code y bytes maxL none) rm (.ref b :: As) Z M o Z1 M1) {host : String} (ok : okNN own idx y host (.code y bytes maxL none) = true) (hy : okY y As.length)
    (hR : rm.frames + 1 ≤ R.frames ∧ 8 + (maxL + 11) + rm.locals ≤ R.locals) (hroom : k + rm.cells ≤ R.cells ∧ n + rm.slots ≤ R.slots) (hrest : (rest.map fun v => v.category).sum ≤ 8) (hst : st = As.reverse ++ .ref b :: rest) (d : decode cc pc = .ok (.invokespecial idx, 3)) : CRun G p l e R s m args below meth c nL k n pc L st rest Z M rm o Z1 M1 := by
  intro H locs ls hRp hS hL
  simp only [okNN, Bool.and_eq_true, decide_eq_true_eq] at ok
  obtain ⟨⟨⟨⟨ok1, ok2⟩, ok3⟩, ok4⟩, ok5⟩ := ok
  have hts := C.2.2.2.2.1
  refine ⟨_, vx_runIN (b := m_ad G b) (As := As.map (m_cv G)) (n := As.length) ⟨C.1, C.2.1, C.2.2.1, C.2.2.2.1, hts⟩ hct ⟨va_cnB (ws' := gw) As.length hts (gw_cons ok4) rfl rfl rfl (nw_at C.2.2.2.2.2.2.1 ok1) (hts _ ok3) hy hR, ok5, hts _ ok2⟩ ⟨mPc_blind, mPc_at C (a := .ref b :: As) hRp hS⟩ rfl (List.length_map _) hL.1 ?_ (lv_room (by rw [cats_cv]; exact hrest)) d hroom⟩
  show st.map (m_cv G) = _
  rw [hst, List.map_append, List.map_reverse]; rfl
theorem c_SX (C : Cx G p l s m args meth c own cc nL ret tb) {hh : List (Nat × Nat × Nat × Nat)} (hct : CT G l y (.codeWith y bytes maxL ret1 hh) rm As Z M o Z1 M1) (ok : okS own idx y (.codeWith y bytes maxL ret1 hh) = true) (hy : okY y As.length)
    (hR : rm.frames + 1 ≤ R.frames ∧ 8 + (maxL + 11) + rm.locals ≤ R.locals) (hroom : k + rm.cells ≤ R.cells ∧ n + rm.slots ≤ R.slots) (hrest : (rest.map fun v => v.category).sum ≤ 8) (hst : st = As.reverse ++ rest) (d : decode cc pc = .ok (.invokestatic idx, 3)) : CRun G p l e R s m args below meth c nL k n pc L st rest Z M rm o Z1 M1 := by
  intro H locs ls hRp hS hL
  simp only [okS, Bool.and_eq_true, decide_eq_true_eq] at ok
  obtain ⟨⟨⟨ok1, ok2⟩, ok3⟩, ok4⟩ := ok
  refine ⟨_, vx_runSX (As := As.map (m_cv G)) (n := As.length) ⟨C.1, C.2.1, C.2.2.1, C.2.2.2.1, C.2.2.2.2.1⟩ hct (vx_cwSW (ws' := gw) As.length C.2.2.2.2.1 (fun w hw => ?_) rfl rfl rfl hy hR) ⟨mPc_blind, mPc_at C (a := As) hRp hS⟩ rfl (List.length_map _) hL.1 ?_ (lv_room (by rw [cats_cv]; exact hrest)) d hroom⟩
  · simp only [va_wsS, List.mem_append, List.mem_cons, List.not_mem_nil, or_false] at hw
    rcases hw with (rfl | rfl | rfl) | rfl | hw
    · exact gw_good _ ok1
    · exact gw_good _ ok2
    · exact gw_good _ ok3
    · exact gw_good _ ok4
    · exact gw_good _ hw
  · show st.map (m_cv G) = _
    rw [hst, List.map_append, List.map_reverse]
end JR4
/-- A CONTRACT out of a walk of the body -/
theorem CT.of {G : mG} {l : Launch} (hl : l.stackTraces = false) {y : MethodName} {cc : ByteArray} {maxL : Nat} {ret : Option FieldType} {rm : Room} {a : List Value} {Z : mZ} {M : mM} {o : mO} {Z' : mZ} {M' : mM} (hy : plainName y.cls = true) (ha : (a.map fun v => v.category).sum ≤ maxL)
    (body : ∀ (p : Program) (e : Env) (s : State) (m : MethodId) (args : Array Value) (below : List Frame) (meth : Method) (c : Code), Cx G p l s m args meth c y.cls cc maxL ret [] → meth.name = y.name → JJ G p l e rm s m args below meth c maxL (mEnd G below args s rm o Z' M') 0 0 0 (lv_args 0 a) [] Z M) :
    CT G l y (.code y cc maxL ret) rm a Z M o Z' M' := by
  refine vx_ofW (cc := cc) (maxL := maxL) (ret := ret) (ws' := gw) hy rfl ?_
  intro p e s m args below meth c s₁ B hml htb hv
  obtain ⟨rfl, hE, hR⟩ := hv
  have hts : ∀ w ∈ gw, w.before (a.map (m_cv G)).toArray s = true := fun w hw => atoms_spec (ws := Cond.code y cc maxL ret :: gw) B.pre w (List.mem_cons_of_mem _ hw)
  have ht : c.exceptionTable.toList = [] := List.eq_nil_iff_forall_not_mem.mpr htb
  have hb := body p e s m (a.map (m_cv G)).toArray below meth c ⟨B.exec, B.bytes, hml, findClass_of_methodNamed B.named, hts, B.notSynchronized, hE, B.returns, hl, ht⟩ (name_of_methodNamed B.named B.method).1
  have hl0 := lv_entry (a.map (m_cv G)) (n := maxL) (by rw [sl_cv]; exact ha)
  rw [lv_args_cv] at hl0
  rw [lg_entry_eq]
  exact hb s.heap [] _ hR va_S.rf hl0
theorem CT.ofH {G : mG} {l : Launch} (hl : l.stackTraces = false) {y : MethodName} {cc : ByteArray} {maxL : Nat} {ret : Option FieldType} {hh : List (Nat × Nat × Nat × Nat)} {tb : List ExceptionTableEntry} {rm : Room} {a : List Value} {Z : mZ} {M : mM} {o : mO} {Z' : mZ} {M' : mM} (hy : plainName y.cls = true) (ha : (a.map fun v => v.category).sum ≤ maxL) (htb : tableOf hh = tb)
    (body : ∀ (p : Program) (e : Env) (s : State) (m : MethodId) (args : Array Value) (below : List Frame) (meth : Method) (c : Code), Cx G p l s m args meth c y.cls cc maxL ret tb → meth.name = y.name → JJ G p l e rm s m args below meth c maxL (mEnd G below args s rm o Z' M') 0 0 0 (lv_args 0 a) [] Z M) :
    CT G l y (.codeWith y cc maxL ret hh) rm a Z M o Z' M' := by
  refine vx_ofWH (cc := cc) (maxL := maxL) (ret := ret) (hh := hh) (ws' := gw) hy rfl ?_
  intro p e s m args below meth c s₁ B hml hv
  obtain ⟨rfl, hE, hR⟩ := hv
  have hts0 := atoms_spec (ws := Cond.codeWith y cc maxL ret hh :: gw) B.pre
  have hts : ∀ w ∈ gw, w.before (a.map (m_cv G)).toArray s = true := fun w hw => hts0 w (List.mem_cons_of_mem _ hw)
  have ht : c.exceptionTable.toList = tb := (vx_table (x := y) B (hts0 _ List.mem_cons_self)).trans htb
  have hb := body p e s m (a.map (m_cv G)).toArray below meth c ⟨B.exec, B.bytes, hml, findClass_of_methodNamed B.named, hts, B.notSynchronized, hE, B.returns, hl, ht⟩ (name_of_methodNamed B.named B.method).1
  have hl0 := lv_entry (a.map (m_cv G)) (n := maxL) (by rw [sl_cv]; exact ha)
  rw [lv_args_cv] at hl0
  rw [lg_entry_eq]
  exact hb s.heap [] _ hR va_S.rf hl0
/-- the tests of a functional body: what a rest that is done tells -/
theorem ob2 {α β γ : Type} {x : Option (α × β)} {f : α → β → Option γ} {r : γ} (h : (x.bind fun q => f q.1 q.2) = some r) : ∃ a b, x = some (a, b) ∧ f a b = some r := by
  cases x with
  | none => cases h
  | some q => exact ⟨q.1, q.2, rfl, h⟩
theorem ob1 {α γ : Type} {x : Option α} {f : α → Option γ} {r : γ} (h : x.bind f = some r) : ∃ a, x = some a ∧ f a = some r := by
  cases x with
  | none => cases h
  | some q => exact ⟨q, rfl, h⟩
/-- go on only where it holds -/
def ck {γ : Type} (b : Bool) (k : Option γ) : Option γ := if b = true then k else none
theorem ck_spec {γ : Type} {b : Bool} {k : Option γ} {r : γ} (h : ck b k = some r) : b = true ∧ k = some r := by
  unfold ck at h
  split at h
  · next hb => exact ⟨hb, h⟩
  · cases h
theorem ck_t {γ : Type} {b : Bool} {k : Option γ} (h : b = true) : ck b k = k := by unfold ck; rw [if_pos h]
