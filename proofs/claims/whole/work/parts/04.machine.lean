/-! ===== LAYER 1: one abstract store for the whole system ===== -/
/-- class ids and slots, array class ids by tag, the first made cell's address, the read-only cells' addresses, and what they are -/
abbrev mG : Type := va_G × (Nat → ClassId) × Nat × (Nat → Nat) × (Nat → Cell)
/-- shape: next free reference, tags, lengths, references held -/
abbrev mZ : Type := Nat × (Nat → Nat) × (Nat → Nat) × (Nat → Nat → Option Nat)
/-- memory: ints, longs, doubles; and whether something was thrown (then no more cells are made) -/
abbrev mM : Type := (Nat → Nat → Int32) × (Nat → Nat → Int64) × (Nat → Nat → UInt64) × Nat
abbrev gB (G : mG) : Nat := G.2.2.1
abbrev gO (G : mG) : Nat → Nat := G.2.2.2.1
abbrev gC (G : mG) : Nat → Cell := G.2.2.2.2
abbrev gT (G : mG) : Nat → ClassId := G.2.1
def gA (G : mG) : Nat → Prop := fun q => gB G ≤ q
def m_ad (G : mG) (r : Nat) : Nat := if r < 8 then gO G r else gB G + (r - 8)
def m_cv (G : mG) : Value → Value
  | .ref r => .ref (m_ad G r)
  | v => v
theorem m_cv_cat (G : mG) (v : Value) : (m_cv G v).category = v.category := by cases v <;> rfl
theorem m_cv_rf (G : mG) (r : Option Nat) : m_cv G (va_rf r) = va_rf (r.map (m_ad G)) := by cases r <;> rfl
def m_ty (t : Nat) : Nat → FieldType := match t with
  | 0 => tyX0 | 1 => tyX1 | 2 => tyX2 | 3 => tyX3 | 4 => tyX4 | 5 => tyX5 | 6 => tyX6 | 7 => tyX7 | 8 => tyX8 | _ => tyX9
def m_nf (t : Nat) : Nat := match t with
  | 0 => 3 | 1 => 8 | 2 => 3 | 3 => 3 | 4 => 7 | 5 => 3 | 6 => 4 | 7 => 5 | 8 => 11 | _ => 23
def m_fv (G : mG) (Z : mZ) (M : mM) (r j : Nat) : Value := match m_ty (Z.2.1 r) j with
  | .object _ => va_rf ((Z.2.2.2 r j).map (m_ad G))
  | .array _ => va_rf ((Z.2.2.2 r j).map (m_ad G))
  | _ => .int (M.1 r j)
def m_ac (G : mG) (Z : mZ) (M : mM) (r : Nat) : Cell :=
  if Z.2.1 r = 22 then arrV (gT G 22) (Z.2.2.1 r) (fun j => .long (M.2.1 r j))
  else if Z.2.1 r = 23 then arrV (gT G 23) (Z.2.2.1 r) (fun j => .double (M.2.2.1 r j))
  else if Z.2.1 r = 24 then arrV (gT G 24) (Z.2.2.1 r) (fun j => va_rf ((Z.2.2.2 r j).map (m_ad G)))
  else arrV (gT G (Z.2.1 r)) (Z.2.2.1 r) (fun j => .int (M.1 r j))
def m_at (G : mG) (Z : mZ) (M : mM) (r : Nat) (H : Heap) : Prop :=
  if Z.2.1 r < 20 then t_OB (m_ad G r) (G.1.1 (Z.2.1 r)) (m_nf (Z.2.1 r)) (G.1.2 (Z.2.1 r)) H (m_fv G Z M r)
  else H[m_ad G r]? = some (m_ac G Z M r)
def m_ro (G : mG) (Z : mZ) (M : mM) (r : Nat) (H : Heap) : Prop :=
  H[gO G r]? = some (gC G r) ∧ Z.2.2.1 r ≤ (gC G r).slots.size ∧ (gC G r).slots.size.toInt32 = Int32.ofNat (Z.2.2.1 r) ∧ ∀ j, j < Z.2.2.1 r → (gC G r).slots[j]? = some (.int (M.1 r j))
def Rep (G : mG) (Z : mZ) (M : mM) (H : Heap) : Prop :=
  (∀ r, r < 5 → m_ro G Z M r H) ∧ (∀ r, 8 ≤ r → r < Z.1 → m_at G Z M r H) ∧ 8 ≤ Z.1 ∧ gB G + (Z.1 - 8) ≤ H.size ∧ (M.2.2.2 = 0 → H.size = gB G + (Z.1 - 8))
/-- pairs of classes that a handler tells apart -/
def ncs : List (String × String) := [("java/lang/IllegalStateException", "java/lang/IllegalArgumentException"), ("java/lang/IllegalArgumentException", "java/lang/IndexOutOfBoundsException"), ("java/lang/UnsupportedOperationException", "java/lang/IndexOutOfBoundsException"), ("java/lang/UnsupportedOperationException", "java/lang/IllegalArgumentException"), ("java/lang/IndexOutOfBoundsException", "java/lang/IllegalArgumentException"), ("java/util/NoSuchElementException", "java/lang/IndexOutOfBoundsException")]
def m_tys (G : mG) : List (ClassId × FieldType) := [(gT G 20, .int), (gT G 21, .char), (gT G 22, .long), (gT G 23, .double), (gT G 24, .object RX4)]
/-- what every method may take as given of the machine's tables and statics -/
def Ev (G : mG) (U : State) : Prop :=
  va_K G.1 m_cl (m_tys G) U ∧ (∀ r, r < 5 → U.isArrayOf (gC G r) .int ∧ (gC G r).vm ≠ .unknown ∧ gO G r < gB G) ∧
  (va_Z RX8 "FIRST_RULES" "[I" (.ref (gO G 1)) (gA G) U U.heap ∧ va_Z RX8 "LEAST_RULES" "[I" (.ref (gO G 2)) (gA G) U U.heap ∧ va_Z RX8 "GREATEST_RULES" "[I" (.ref (gO G 3)) (gA G) U U.heap ∧ va_Z RX8 "DISMANTLING_ORDER" "[I" (.ref (gO G 4)) (gA G) U U.heap) ∧
  vx_Zq Bundle.tN "UNASSIGNED_STACK" Bundle.steD (gA G) U U.heap ∧ vx_Zq Bundle.tN "SUPPRESSED_SENTINEL" Bundle.listD (gA G) U U.heap ∧
  gB G ≤ U.heap.size ∧ (∀ w ∈ nw, va_Nw w U) ∧ (∀ q ∈ ncs, va_Nc q.1 q.2 U) ∧ va_AO RX4 U
theorem nw_warm {s U : State} (hW : s.WarmedH U.vm) {w : Cond} (hn : isNw w = true) (h : va_Nw w s) : va_Nw w U := by
  cases w <;> first | exact va_Nw.warmF hW h | exact va_Nw.warmM hW h | exact va_Nw.warmD hW h | exact va_Nw.warmC hW h | exact va_tabs rfl (rfl : (s.setVm U.vm).vm = U.vm) (by rw [Cond.privateMethod_setVm hW.alike]; exact h) | (simp [isNw] at hn)
theorem Ev.trans {G : mG} {u U : State} (h : Ev G u) (hW : u.WarmedH U.vm) (hz : u.heap.size ≤ U.heap.size) (hq : ∀ q : Nat, q < u.heap.size → ¬ gA G q → U.heap[q]? = u.heap[q]?) : Ev G U := by
  obtain ⟨h1, h2, ⟨z1, z2, z3, z4⟩, h3, h4, h5, h6, h7, h8⟩ := h
  have ha := hW.alike
  refine ⟨h1.moved ha, fun r hr => ⟨State.isArrayOf_alike ha (h2 r hr).1, (h2 r hr).2⟩, ⟨(z1.kept hq).moved ha, (z2.kept hq).moved ha, (z3.kept hq).moved ha, (z4.kept hq).moved ha⟩, (h3.kept hq).moved ha, (h4.kept hq).moved ha, Nat.le_trans h5 hz, fun w hw => nw_warm hW (List.mem_filter.mp hw).2 (h6 w hw), fun q hq => (h7 q hq).moved ha, h8.moved ha⟩
theorem m_ro.kept {G : mG} {Z : mZ} {M : mM} {r : Nat} {H H1 : Heap} (h : m_ro G Z M r H) (hq : H1[gO G r]? = H[gO G r]?) : m_ro G Z M r H1 := ⟨by rw [hq]; exact h.1, h.2⟩
theorem m_at.kept {G : mG} {Z : mZ} {M : mM} {r : Nat} {H H1 : Heap} (h : m_at G Z M r H) (hq : H1[m_ad G r]? = H[m_ad G r]?) : m_at G Z M r H1 := by
  unfold m_at at h ⊢
  by_cases hh : Z.2.1 r < 20
  · rw [if_pos hh] at h ⊢; exact h.kept hq
  · rw [if_neg hh] at h ⊢; rw [hq]; exact h
theorem m_ad_hi {G : mG} {r : Nat} (h : 8 ≤ r) : m_ad G r = gB G + (r - 8) := by unfold m_ad; rw [if_neg (by omega)]
theorem m_ad_lo {G : mG} {r : Nat} (h : r < 8) : m_ad G r = gO G r := by unfold m_ad; rw [if_pos h]
theorem m_ad_inj {G : mG} {r t : Nat} (hr : 8 ≤ r) (ht : 8 ≤ t) (h : m_ad G r = m_ad G t) : r = t := by rw [m_ad_hi hr, m_ad_hi ht] at h; omega
/-- outcomes: returned with a value or none, or thrown, by the class's name -/
abbrev mO : Type := Option Value ⊕ String
def mPc (G : mG) (a : List Value) (Z : mZ) (M : mM) : Array Value → State → Prop := fun v U => v = (a.map (m_cv G)).toArray ∧ Ev G U ∧ Rep G Z M U.heap
def mQc (G : mG) (o : mO) (Z : mZ) (M : mM) : Array Value → State → Outcome → State → Prop := fun _ st oc t => (∃ v, o = .inl v ∧ oc = .returned (v.map (m_cv G))) ∧ Rep G Z M t.heap ∧ va_F (gA G) st t
def mXC (G : mG) (o : mO) (Z : mZ) (M : mM) : String → State → State → Prop := fun E st t => o = .inr E ∧ Rep G Z M t.heap ∧ va_F (gA G) st t
/-- THE CONTRACT of a method: from Z, M, on these arguments, this outcome, and Z', M' behind it -/
def CT (G : mG) (l : Launch) (y : MethodName) (w0 : Cond) (rm : Room) (a : List Value) (Z : mZ) (M : mM) (o : mO) (Z' : mZ) (M' : mM) : Prop :=
  vx_Met l y (w0 :: gw) rm (mPc G a Z M) (mQc G o Z' M') (mXC G o Z' M') rm.cells rm.slots (gA G)
theorem mPc_blind {G : mG} {a : List Value} {Z : mZ} {M : mM} : FrameBlind (mPc G a Z M) := fun v U g mk h => ⟨h.1, h.2.1.trans (State.WarmedH.refl U) (Nat.le_refl _) (fun _ _ _ => rfl), h.2.2⟩
/-- what holds in a frame -/
def Cx (G : mG) (p : Program) (l : Launch) (s : State) (m : MethodId) (args : Array Value) (meth : Method) (c : Code) (own : String) (cc : ByteArray) (nL : Nat) (ret : Option FieldType) (tb : List ExceptionTableEntry) : Prop :=
  p.tables.exec = Jvm.exec ∧ c.code = cc ∧ c.maxLocals = nL ∧ s.vm.findClass own = some m.cls ∧ (∀ w ∈ gw, w.before args s = true) ∧ meth.locks = false ∧ Ev G s ∧ meth.sig.returnType = ret ∧ l.stackTraces = false ∧ c.exceptionTable.toList = tb
abbrev mL : Type := List (Nat × Value)
def m_cl2 (G : mG) (L : mL) : mL := L.map (fun q => (q.1, m_cv G q.2))
/-- THE JUDGEMENT: from here the frame ends in Q -/
def JJ (G : mG) (p : Program) (l : Launch) (e : Env) (R : Room) (s : State) (m : MethodId) (args : Array Value) (below : List Frame) (meth : Method) (c : Code) (nL : Nat) (Q : State → Prop) (k n pc : Nat) (L : mL) (st : List Value) (Z : mZ) (M : mM) : Prop :=
  ∀ (H : Heap) (locs : List Loc) (ls : Array Slot), Rep G Z M H → va_S (gA G) s.heap H locs → lv_has ls nL (m_cl2 G L) →
    W p l e R s m args below meth c H locs k n Q (F0 m pc ls (st.map (m_cv G)))
/-- the end of a method body -/
abbrev mEnd (G : mG) (below : List Frame) (args : Array Value) (s : State) (rm : Room) (o : mO) (Z' : mZ) (M' : mM) : State → Prop := vx_MQ below (mQc G o Z' M') (mXC G o Z' M') args s rm.cells rm.slots (gA G)
theorem m_cl2_at {G : mG} {L : mL} {i j : Nat} {v : Value} (h : L[i]? = some (j, v)) : (m_cl2 G L)[i]? = some (j, m_cv G v) := by
  unfold m_cl2
  rw [List.getElem?_map, h]; rfl
def m_f1 (i : Nat) : Nat × Value → Bool := fun q => !(q.1 == i) && !(q.1 + 1 == i && q.2.category == 2)
def m_f2 (i : Nat) : Nat × Value → Bool := fun q => !(q.1 == i) && (!(q.1 == i + 1) && !(q.1 + 1 == i && q.2.category == 2))
theorem m_cl2_f1 {G : mG} {L : mL} {i : Nat} : (m_cl2 G L).filter (m_f1 i) = m_cl2 G (L.filter (m_f1 i)) := by
  unfold m_cl2
  rw [List.filter_map]
  congr 1
  apply List.filter_congr
  intro q _
  simp [m_f1, m_cv_cat]
theorem m_cl2_f2 {G : mG} {L : mL} {i : Nat} : (m_cl2 G L).filter (m_f2 i) = m_cl2 G (L.filter (m_f2 i)) := by
  unfold m_cl2
  rw [List.filter_map]
  congr 1
  apply List.filter_congr
  intro q _
  simp [m_f2, m_cv_cat]
theorem m_cl2_pick {G : mG} {L : mL} {ks : List Nat} : lv_pick (m_cl2 G L) ks = m_cl2 G (lv_pick L ks) := by
  unfold lv_pick m_cl2
  induction ks with
  | nil => rfl
  | cons a ks ih =>
    simp only [List.filterMap_cons, List.getElem?_map]
    cases h : L[a]? with
    | none => simpa [h] using ih
    | some q => simpa using ih
def lset (L : mL) (i : Nat) (v : Value) : mL := (i, v) :: L.filter (m_f1 i)
def lset2 (L : mL) (i : Nat) (v : Value) : mL := (i, v) :: L.filter (m_f2 i)
theorem m_cl2_set {G : mG} {L : mL} {i : Nat} {v : Value} : (i, m_cv G v) :: (m_cl2 G L).filter (fun q => !(q.1 == i) && !(q.1 + 1 == i && q.2.category == 2)) = m_cl2 G (lset L i v) := by
  have h := m_cl2_f1 (G := G) (L := L) (i := i)
  unfold m_f1 at h
  rw [h]; rfl
theorem m_cl2_set2 {G : mG} {L : mL} {i : Nat} {v : Value} : (i, m_cv G v) :: (m_cl2 G L).filter (fun q => !(q.1 == i) && (!(q.1 == i + 1) && !(q.1 + 1 == i && q.2.category == 2))) = m_cl2 G (lset2 L i v) := by
  have h := m_cl2_f2 (G := G) (L := L) (i := i)
  unfold m_f2 at h
  rw [h]; rfl
