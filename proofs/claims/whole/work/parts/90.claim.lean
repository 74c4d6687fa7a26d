/-! THE CLAIM OUT OF ONE WALK OF THE LAW'S BODY. Your part is whole_start (and what it stands on); all else here is the same for every law, but numbers. -/
/-- an array of ints that a static field holds -/
theorem st_ints {s : State} {args : Array Value} {C n : String} {L : Nat} {xs : Nat → Int32} (h1 : (Cond.arrayOf (.static C n "[I") .int).before args s = true) (h2 : (Cond.eq (.length (.static C n "[I")) (.int (nI L))).before args s = true) (h3 : ∀ j, j < L → (Cond.eq (.elem (.static C n "[I") (.int (nI j))) (.int (xs j))).before args s = true) (hL : L < 2147483648) :
    ∃ (a : Addr) (cell : Cell), (Term.static C n "[I").eval args s none [] s = some (.ref a) ∧ s.heap[a]? = some cell ∧ s.isArrayOf cell .int ∧ cell.vm ≠ .unknown ∧ L ≤ cell.slots.size ∧ cell.slots.size.toInt32 = Int32.ofNat L ∧ ∀ j, j < L → cell.slots[j]? = some (.int (xs j)) := by
  have e2 := Cond.eq_int h2 (show (Term.int (nI L)).eval args s none [] s = some (.int (nI L)) from rfl)
  obtain ⟨a, cell, ht, harr, hv⟩ := Term.length_spec e2
  obtain ⟨hcell, -, -, -⟩ := State.arrayAt?_spec harr
  obtain ⟨hof, hkn⟩ := Cond.arrayOf_spec h1 ht hcell
  have hel : ∀ j, j < L → cell.slots[j]? = some (.int (xs j)) := fun j hj => by
    have e3 := Cond.eq_int (h3 j hj) (show (Term.int (xs j)).eval args s none [] s = some (.int (xs j)) from rfl)
    obtain ⟨a', j', cell', t1, t2, t3, -, t5⟩ := Term.elem_spec e3
    have t2' : some (Value.int (nI j)) = some (Value.int j') := t2
    cases t2'
    rw [ht] at t1
    cases t1
    rw [harr] at t3
    cases t3
    rw [i_cl (by omega)] at t5
    exact t5
  refine ⟨a, cell, ht, hcell, hof, hkn, ?_, ?_, hel⟩
  · by_cases z : L = 0
    · omega
    · have := (Array.getElem?_eq_some_iff.mp (hel (L - 1) (by omega))).1
      omega
  · exact (Value.int.inj hv).symm
/-- YOUR PART: from the entry, for every script of at most 2560 ints, the law comes to its end with true -/
theorem whole_start {p : Program} {e : Env} {s : State} {m : MethodId} {below : List Frame} {meth : Method} {c : Code} (l : Launch) (hflags : l.flags = flags0) {b L : Nat} {xs : Nat → Int32} (hL : L ≤ 2560) (C0 : lw_At p s m meth c b L xs) : W p l e room_1 s m #[Value.ref b] below meth c s.heap [] 0 0 (lw_Z below #[Value.ref b] s) (entryFrame m ([Value.ref b] : List Value).toArray 9) := by
  obtain ⟨hx, hb, hr, hml, hown, hts, hX, hbl, hlocks, hgv⟩ := C0
  have hs := flat_of_before _ hgv
  obtain ⟨a1, l1, e1, hc1, of1, kn1, sz1, sm1, el1⟩ := st_ints (s := s) (args := #[Value.ref b]) (C := RX8) (n := "FIRST_RULES") (L := 3) (xs := stM xs 1) (hs _ (by decide +kernel)) (hs _ (by decide +kernel)) (fun j hj => by
    rcases (show j = 0 ∨ j = 1 ∨ j = 2 by omega) with rfl | rfl | rfl
    · exact hs (Cond.eq (.elem (.static RX8 "FIRST_RULES" "[I") (.int 0)) (.int 3)) (by decide +kernel)
    · exact hs (Cond.eq (.elem (.static RX8 "FIRST_RULES" "[I") (.int 1)) (.int 2)) (by decide +kernel)
    · exact hs (Cond.eq (.elem (.static RX8 "FIRST_RULES" "[I") (.int 2)) (.int 600)) (by decide +kernel)) (by decide)
  obtain ⟨a2, l2, e2, hc2, of2, kn2, sz2, sm2, el2⟩ := st_ints (s := s) (args := #[Value.ref b]) (C := RX8) (n := "LEAST_RULES") (L := 3) (xs := stM xs 2) (hs _ (by decide +kernel)) (hs _ (by decide +kernel)) (fun j hj => by
    rcases (show j = 0 ∨ j = 1 ∨ j = 2 by omega) with rfl | rfl | rfl
    · exact hs (Cond.eq (.elem (.static RX8 "LEAST_RULES" "[I") (.int 0)) (.int 1)) (by decide +kernel)
    · exact hs (Cond.eq (.elem (.static RX8 "LEAST_RULES" "[I") (.int 1)) (.int 0)) (by decide +kernel)
    · exact hs (Cond.eq (.elem (.static RX8 "LEAST_RULES" "[I") (.int 2)) (.int 100)) (by decide +kernel)) (by decide)
  obtain ⟨a3, l3, e3, hc3, of3, kn3, sz3, sm3, el3⟩ := st_ints (s := s) (args := #[Value.ref b]) (C := RX8) (n := "GREATEST_RULES") (L := 3) (xs := stM xs 3) (hs _ (by decide +kernel)) (hs _ (by decide +kernel)) (fun j hj => by
    rcases (show j = 0 ∨ j = 1 ∨ j = 2 by omega) with rfl | rfl | rfl
    · exact hs (Cond.eq (.elem (.static RX8 "GREATEST_RULES" "[I") (.int 0)) (.int 4)) (by decide +kernel)
    · exact hs (Cond.eq (.elem (.static RX8 "GREATEST_RULES" "[I") (.int 1)) (.int 3)) (by decide +kernel)
    · exact hs (Cond.eq (.elem (.static RX8 "GREATEST_RULES" "[I") (.int 2)) (.int 2000)) (by decide +kernel)) (by decide)
  obtain ⟨a4, l4, e4, hc4, of4, kn4, sz4, sm4, el4⟩ := st_ints (s := s) (args := #[Value.ref b]) (C := RX8) (n := "DISMANTLING_ORDER") (L := 5) (xs := stM xs 4) (hs _ (by decide +kernel)) (hs _ (by decide +kernel)) (fun j hj => by
    rcases (show j = 0 ∨ j = 1 ∨ j = 2 ∨ j = 3 ∨ j = 4 by omega) with rfl | rfl | rfl | rfl | rfl
    · exact hs (Cond.eq (.elem (.static RX8 "DISMANTLING_ORDER" "[I") (.int 0)) (.int 5)) (by decide +kernel)
    · exact hs (Cond.eq (.elem (.static RX8 "DISMANTLING_ORDER" "[I") (.int 1)) (.int 4)) (by decide +kernel)
    · exact hs (Cond.eq (.elem (.static RX8 "DISMANTLING_ORDER" "[I") (.int 2)) (.int 3)) (by decide +kernel)
    · exact hs (Cond.eq (.elem (.static RX8 "DISMANTLING_ORDER" "[I") (.int 3)) (.int 2)) (by decide +kernel)
    · exact hs (Cond.eq (.elem (.static RX8 "DISMANTLING_ORDER" "[I") (.int 4)) (.int 0)) (by decide +kernel)) (by decide)
  obtain ⟨scr, x1, x2, x3, x4, x5⟩ := hX
  obtain ⟨c0, i0, hk0⟩ := u_known (ws := gw) (s := s) (args := #[Value.ref b]) (C := RX0) (T := TX0) (N := 3) (n := 3) (fun w hw => hts w (List.mem_filter.mp hw).1) iX0 (hts (.instantiable RX0 3) (by decide +kernel))
  obtain ⟨c1, i1, hk1⟩ := u_known (ws := gw) (s := s) (args := #[Value.ref b]) (C := RX1) (T := TX1) (N := 8) (n := 8) (fun w hw => hts w (List.mem_filter.mp hw).1) iX1 (hts (.instantiable RX1 8) (by decide +kernel))
  obtain ⟨c2, i2, hk2⟩ := u_known (ws := gw) (s := s) (args := #[Value.ref b]) (C := RX2) (T := TX2) (N := 3) (n := 3) (fun w hw => hts w (List.mem_filter.mp hw).1) iX2 (hts (.instantiable RX2 3) (by decide +kernel))
  obtain ⟨c3, i3, hk3⟩ := u_known (ws := gw) (s := s) (args := #[Value.ref b]) (C := RX3) (T := TX3) (N := 3) (n := 3) (fun w hw => hts w (List.mem_filter.mp hw).1) iX3 (hts (.instantiable RX3 3) (by decide +kernel))
  obtain ⟨c4, i4, hk4⟩ := u_known (ws := gw) (s := s) (args := #[Value.ref b]) (C := RX4) (T := TX4) (N := 7) (n := 7) (fun w hw => hts w (List.mem_filter.mp hw).1) iX4 (hts (.instantiable RX4 7) (by decide +kernel))
  obtain ⟨c5, i5, hk5⟩ := u_known (ws := gw) (s := s) (args := #[Value.ref b]) (C := RX5) (T := TX5) (N := 3) (n := 3) (fun w hw => hts w (List.mem_filter.mp hw).1) iX5 (hts (.instantiable RX5 3) (by decide +kernel))
  obtain ⟨c6, i6, hk6⟩ := u_known (ws := gw) (s := s) (args := #[Value.ref b]) (C := RX6) (T := TX6) (N := 4) (n := 4) (fun w hw => hts w (List.mem_filter.mp hw).1) iX6 (hts (.instantiable RX6 4) (by decide +kernel))
  obtain ⟨c7, i7, hk7⟩ := u_known (ws := gw) (s := s) (args := #[Value.ref b]) (C := RX7) (T := TX7) (N := 5) (n := 5) (fun w hw => hts w (List.mem_filter.mp hw).1) iX7 (hts (.instantiable RX7 5) (by decide +kernel))
  obtain ⟨c8, i8, hk8⟩ := u_known (ws := gw) (s := s) (args := #[Value.ref b]) (C := RX8) (T := TX8) (N := 11) (n := 11) (fun w hw => hts w (List.mem_filter.mp hw).1) iX8 (hts (.instantiable RX8 11) (by decide +kernel))
  obtain ⟨c9, i9, hk9⟩ := u_known (ws := gw) (s := s) (args := #[Value.ref b]) (C := RX9) (T := TX9) (N := 23) (n := 23) (fun w hw => hts w (List.mem_filter.mp hw).1) iX9 (hts (.instantiable RX9 23) (by decide +kernel))
  obtain ⟨dC, hdC⟩ : ∃ d : Nat → ClassId, d = fun k => if k = 0 then c0 else (if k = 1 then c1 else (if k = 2 then c2 else (if k = 3 then c3 else (if k = 4 then c4 else (if k = 5 then c5 else (if k = 6 then c6 else (if k = 7 then c7 else (if k = 8 then c8 else c9)))))))) := ⟨_, rfl⟩
  obtain ⟨dI, hdI⟩ : ∃ d : Nat → Nat → Nat, d = fun k => if k = 0 then i0 else (if k = 1 then i1 else (if k = 2 then i2 else (if k = 3 then i3 else (if k = 4 then i4 else (if k = 5 then i5 else (if k = 6 then i6 else (if k = 7 then i7 else (if k = 8 then i8 else i9)))))))) := ⟨_, rfl⟩
  have hKc : ∀ (k : Nat) (q : vw_C), m_cl[k]? = some q → u_Kn s q.1 q.2.1 q.2.2 (dC k) (dI k) := by
    intro k q hq
    rw [hdC, hdI]
    match k, hq with
    | 0, hq => cases hq; exact hk0
    | 1, hq => cases hq; exact hk1
    | 2, hq => cases hq; exact hk2
    | 3, hq => cases hq; exact hk3
    | 4, hq => cases hq; exact hk4
    | 5, hq => cases hq; exact hk5
    | 6, hq => cases hq; exact hk6
    | 7, hq => cases hq; exact hk7
    | 8, hq => cases hq; exact hk8
    | 9, hq => cases hq; exact hk9
    | k + 10, hq => simp [m_cl] at hq
  obtain ⟨t20, k20, p20, f20, g20, n20⟩ := Cond.arrayClass_spec (hts (.arrayClass .int) (by decide +kernel))
  obtain ⟨t21, k21, p21, f21, g21, n21⟩ := Cond.arrayClass_spec (hts (.arrayClass .char) (by decide +kernel))
  obtain ⟨t22, k22, p22, f22, g22, n22⟩ := Cond.arrayClass_spec (hts (.arrayClass .long) (by decide +kernel))
  obtain ⟨t23, k23, p23, f23, g23, n23⟩ := Cond.arrayClass_spec (hts (.arrayClass .double) (by decide +kernel))
  obtain ⟨p24, t24, k24, f24, -, g24, n24, h24⟩ := Cond.arrayOver_spec (hts (.arrayOver (.object RX4)) (by decide +kernel))
  obtain ⟨G, hG⟩ : ∃ G : mG, G = ((dC, dI), (fun t => if t = 20 then t20 else if t = 21 then t21 else if t = 22 then t22 else if t = 23 then t23 else t24), s.heap.size, (fun r => if r = 0 then b else if r = 1 then a1 else if r = 2 then a2 else if r = 3 then a3 else a4), (fun r => if r = 0 then scr else if r = 1 then l1 else if r = 2 then l2 else if r = 3 then l3 else l4)) := ⟨_, rfl⟩
  have hA : ∀ a : Nat, a < s.heap.size → ¬ gA G a := fun a ha h => by rw [hG] at h; exact absurd ha (Nat.not_lt.mpr h)
  have z1 : va_Z RX8 "FIRST_RULES" "[I" (.ref (gO G 1)) (gA G) s s.heap := by
    have := va_Zof (A := gA G) (hts (.laysStatic RX8 "FIRST_RULES" "[I") (by decide +kernel)) (hts (.initialized RX8) (by decide +kernel)) e1 hA
    rw [show gO G 1 = a1 by rw [hG]; rfl]; exact this
  have z2 : va_Z RX8 "LEAST_RULES" "[I" (.ref (gO G 2)) (gA G) s s.heap := by
    have := va_Zof (A := gA G) (hts (.laysStatic RX8 "LEAST_RULES" "[I") (by decide +kernel)) (hts (.initialized RX8) (by decide +kernel)) e2 hA
    rw [show gO G 2 = a2 by rw [hG]; rfl]; exact this
  have z3 : va_Z RX8 "GREATEST_RULES" "[I" (.ref (gO G 3)) (gA G) s s.heap := by
    have := va_Zof (A := gA G) (hts (.laysStatic RX8 "GREATEST_RULES" "[I") (by decide +kernel)) (hts (.initialized RX8) (by decide +kernel)) e3 hA
    rw [show gO G 3 = a3 by rw [hG]; rfl]; exact this
  have z4 : va_Z RX8 "DISMANTLING_ORDER" "[I" (.ref (gO G 4)) (gA G) s s.heap := by
    have := va_Zof (A := gA G) (hts (.laysStatic RX8 "DISMANTLING_ORDER" "[I") (by decide +kernel)) (hts (.initialized RX8) (by decide +kernel)) e4 hA
    rw [show gO G 4 = a4 by rw [hG]; rfl]; exact this
  have lt : ∀ (a : Nat) (c : Cell), s.heap[a]? = some c → a < s.heap.size := fun a c h => (Array.getElem?_eq_some_iff.mp h).1
  have hE : Ev G s := by
    refine ⟨⟨fun c q hq => by rw [hG]; exact hKc c q hq, fun k q hq => ?_⟩, fun r hr => ?_, ⟨z1, z2, z3, z4⟩, ?_, ?_, by rw [hG]; exact Nat.le_refl _, fun w hw => va_Nw.of (isNw_tab (List.mem_filter.mp hw).2) (hts w (List.mem_filter.mp hw).1), fun q hq => ?_, va_AO.of (hts (.arrayOver (.object RX4)) (by decide +kernel))⟩
    · rw [hG] at hq
      match k, hq with
      | 0, hq => cases hq; exact ⟨fun n z => ⟨fun k h => (by cases h), k20, g20, p20, n20⟩, f20⟩
      | 1, hq => cases hq; exact ⟨fun n z => ⟨fun k h => (by cases h), k21, g21, p21, n21⟩, f21⟩
      | 2, hq => cases hq; exact ⟨fun n z => ⟨fun k h => (by cases h), k22, g22, p22, n22⟩, f22⟩
      | 3, hq => cases hq; exact ⟨fun n z => ⟨fun k h => (by cases h), k23, g23, p23, n23⟩, f23⟩
      | 4, hq => cases hq; exact ⟨fun n z => ⟨fun k h => (by cases h), k24, g24, p24, n24⟩, k24, p24, g24, n24, f24, h24⟩
      | k + 5, hq => simp [m_tys] at hq
    · rw [hG]
      rcases (show r = 0 ∨ r = 1 ∨ r = 2 ∨ r = 3 ∨ r = 4 by omega) with rfl | rfl | rfl | rfl | rfl
      · exact ⟨x2, x3, hbl⟩
      · exact ⟨of1, kn1, lt _ _ hc1⟩
      · exact ⟨of2, kn2, lt _ _ hc2⟩
      · exact ⟨of3, kn3, lt _ _ hc3⟩
      · exact ⟨of4, kn4, lt _ _ hc4⟩
    · exact vx_Zqof (hts (.laysStatic Bundle.tN "UNASSIGNED_STACK" Bundle.steD) (by decide +kernel)) (hts (.initialized Bundle.tN) (by decide +kernel)) (hs _ (by decide +kernel)) hA
    · exact vx_Zqof (hts (.laysStatic Bundle.tN "SUPPRESSED_SENTINEL" Bundle.listD) (by decide +kernel)) (hts (.initialized Bundle.tN) (by decide +kernel)) (hs _ (by decide +kernel)) hA
    · have hn : ∀ q ∈ ncs, (Cond.not (.castable q.1 q.2)).before #[Value.ref b] s = true := by
        intro q hq
        have hq' := hq
        unfold ncs at hq'
        simp only [List.mem_cons, List.not_mem_nil, or_false] at hq'
        rcases hq' with rfl | rfl | rfl | rfl | rfl | rfl <;> exact hs _ (by decide +kernel)
      exact va_Nc.of (hn q hq)
  have hst : l.stackTraces = false := by unfold Launch.stackTraces; rw [hflags]; decide +kernel
  have CC : Cx G p l s m #[Value.ref b] meth c RL cL_law 9 (some .boolean) c.exceptionTable.toList := ⟨hx, hb, hml, hown, fun w hw => hts w (List.mem_filter.mp hw).1, hlocks, hE, hr, hst, rfl⟩
  have hR : Rep G (Z0 L) (M0 xs) s.heap := by
    refine ⟨fun r hr => ?_, fun r h8 h => absurd h (Nat.not_lt.mpr h8), Nat.le_refl _, by rw [hG]; exact Nat.le_refl _, fun _ => by rw [hG]; rfl⟩
    rw [hG]
    rcases (show r = 0 ∨ r = 1 ∨ r = 2 ∨ r = 3 ∨ r = 4 by omega) with rfl | rfl | rfl | rfl | rfl
    · exact ⟨x1, Nat.le_of_eq x4.symm, by show scr.slots.size.toInt32 = Int32.ofNat L; rw [x4], fun j hj => x5 j hj⟩
    · exact ⟨hc1, sz1, sm1, fun j hj => el1 j hj⟩
    · exact ⟨hc2, sz2, sm2, fun j hj => el2 j hj⟩
    · exact ⟨hc3, sz3, sm3, fun j hj => el3 j hj⟩
    · exact ⟨hc4, sz4, sm4, fun j hj => el4 j hj⟩
  obtain ⟨M', hrun⟩ := law_run (xs := xs) hL
  have hend : ∀ (k n : Nat) (L : mL) (Z : mZ) (M : mM), k ≤ KM → n ≤ NMX → JJ G p l e room_1 s m #[Value.ref b] below meth c 9 (lw_Z below #[Value.ref b] s) k n 1877 L [.int 1] Z M := by
    intro k n L1 Z M hk hn H locs ls hR1 hS hL1
    refine va_forget (fun q hq => ?_) (W.widen hk hn ?_)
    · have := hS.2.2 q hq; rw [hG] at this; exact this
    · exact W.base (lw_ret (Drawn.sameBut.refl s.drawn lw_cs) hx hb hr hlocks dL_law_1877)
  have J := ctL_law hend CC 5000 (Z0 L) 0 (M0 xs) 1 M' hrun
  have hl := lv_entry ([.ref b]) (n := 9) (Nat.le_of_ble_eq_true rfl)
  rw [lg_entry_eq]
  refine J s.heap [] _ hR va_S.rf ?_
  have hl : lv_has ((lg_sl [.ref b] ++ List.replicate (9 - (lg_sl [.ref b]).length) Slot.unset).toArray) 9 [(0, .ref b)] := hl
  rw [show m_cl2 G [(0, .ref 0)] = [(0, Value.ref b)] by rw [hG]; rfl]
  exact hl
set_option maxHeartbeats 4000000 in
theorem lw_walk (l : Launch) (hflags : l.flags = flags0) (b : Addr) (xs : List Int32) : MetFree l x (headSpec (Jvm.Cond.code x code maxLocals ret :: tables_1) room_1) (lw_P b xs) (fun _ _ _ _ _ => True) lw_Q := by
  refine MetFree.of_bodyS (code := code) (maxLocals := maxLocals) (ret := ret) (by decide) ?_ ?_
  · intro args s m h hn
    obtain ⟨meth, c, h1, h2, h3, h4, h5, h6, -, -⟩ := Cond.code_spec hn (atoms_spec (ws := Jvm.Cond.code x code maxLocals ret :: tables_1) h _ List.mem_cons_self)
    exact ⟨meth, c, h1, h2, h3, h4, h5, h6⟩
  · intro p e s m args below meth c s₁ B hml0 hP _
    obtain ⟨rfl, hx, hbd, hgv⟩ := hP
    obtain ⟨scr, harrAt, hlist, hof, hsmall⟩ := hx
    obtain ⟨hcb, hkn, -, -⟩ := State.arrayAt?_spec harrAt
    have hown : s.vm.findClass R_law = some m.cls := findClass_of_methodNamed B.named
    have hts0 : ∀ c ∈ (Jvm.Cond.code x code maxLocals ret :: tables_1), c.before #[Value.ref b] s = true := atoms_spec (ws := Jvm.Cond.code x code maxLocals ret :: tables_1) B.pre
    have hts : ∀ w ∈ lw_tbl, w.before #[Value.ref b] s = true := k2_hts_sels lw_privs (fun w hw => hts0 w (List.mem_cons_of_mem _ hw)) lw_privs_ok
    have hml : c.maxLocals = 9 := B.maxLocals_eq (hts0 _ List.mem_cons_self)
    have X₀ : Stand p l e room_1 s m #[Value.ref b] below meth c s₁ [] 0 0 := Stand.of_body B
    have hh0 : s₁.heap = s.heap := by rw [B.state]; rfl
    have hsz : scr.slots.size = xs.length := by rw [← Array.length_toList, hlist, List.length_map]
    have hval : ∀ j : Nat, j < xs.length → scr.slots[j]? = some (.int (xs.getD j 0)) := fun j hj => by
      rw [← Array.getElem?_toList, hlist]
      simp [hj]
    have hbl : b < s.heap.size := (Array.getElem?_eq_some_iff.mp hcb).1
    have hX : va_X b xs.length (fun j => xs.getD j 0) s s.heap := ⟨scr, hcb, hof, hkn, hsz, hval⟩
    have K : W p l e room_1 s m #[Value.ref b] below meth c s₁.heap [] 0 0 (lw_Z below #[Value.ref b] s) (entryFrame m ([Value.ref b] : List Value).toArray 9) := by
      rw [hh0]
      exact whole_start l hflags hbd ⟨B.exec, B.bytes, B.returns, hml, hown, hts, hX, hbl, B.notSynchronized, hgv⟩
    obtain ⟨t, a1, o, b1, b2, b3⟩ := K s₁ rfl X₀
    exact ⟨t, o, a1, b1, b2, b3⟩
theorem lw_pre_spec {args : Array Value} {s : State} (h : (Jvm.Cond.and given_1 narrow_1).before args s = true) (hr : rest_1_c.before args s = true) : ∃ (b : Addr) (xs : List Int32), lw_P b xs args s := by
  have hs := flat_of_before _ h
  have hq := flat_of_before _ hr
  have hc : (Cond.count 1).before args s = true := hs _ (by decide +kernel)
  have harr : (Cond.arrayOf (.arg 0) .int).before args s = true := hs _ (by decide +kernel)
  have hle : (Cond.le (.length (.arg 0)) (.int 2560)).before args s = true := hs _ (by decide +kernel)
  have hlen : (Cond.isInt (.length (.arg 0))).before args s = true := hq _ (by decide +kernel)
  have hall : (Cond.all (.arg 0) (.isInt (.elem (.arg 0) (.index 0)))).before args s = true := hq _ (by decide +kernel)
  obtain ⟨b, xs, hb, hx⟩ := State.ints_of_pre rfl harr hlen hall
  have hsm : xs.length < 2 ^ 31 := hx.choose_spec.2.2.2
  have hev : (Term.length (.arg 0)).eval args s none [] s = some (.int xs.length.toInt32) := hx.length_eval hb
  have hv := Cond.le_ints hev (show (Term.int 2560).eval args s none [] s = some (.int 2560) from rfl)
  have hd : xs.length.toInt32 ≤ 2560 := by
    simpa [Cond.before, Cond.holds, hv] using hle
  have hN : xs.length ≤ 2560 := (Int32.ofNat_le_ofNat hsm (by decide)).mp (show Int32.ofNat xs.length ≤ Int32.ofNat 2560 from hd)
  exact ⟨b, xs, Cond.one_arg hc (show args[0]? = some (.ref b) from hb), hx, hN, h⟩
theorem lw_comes (l : Launch) (hflags : l.flags = flags0) : Comes l x (Jvm.Cond.code x code maxLocals ret :: tables_1) room_1 (fun tb e args s => Calls_1 tb e args s ∧ rest_1 tb e args s ∧ Pre_1 tb e args s)
    (fun _ _ args s o t => lw_Q args s o t) := by
  intro p e ha hc hk s m args below hf hfit hheap happ hpre
  obtain ⟨b, xs, hP⟩ := lw_pre_spec hpre.2.2 hpre.2.1
  obtain ⟨k, o, h1, h2, h3, hQ⟩ := lw_walk l hflags b xs p e ha hc hk s m args below hf ((Spec.applies_iff_loose hf).mp happ).1 hP trivial
  exact ⟨k, o, h1, h2, h3, hQ⟩
theorem lw_frame {s t : State} {o : Outcome} {args : Array Value} (h : State.butDraws s t lw_cs (fun t1 => Framed s o t1 [] 603072 7178346)) :
    State.butDraws s t [Jvm.Choice.named "NaN.bits"] (fun t1 => Framed s o t1 (fieldLocs frame_1_writes args s ++ arrayLocs frame_1_arrays args s ++ staticLocs frame_1_statics s) 603072 7178346) := h
theorem lw_limb (L : Cond) (hL : ∀ (args : Array Value) (s t : State), L.after args s (.returned (some (.int 1))) t = true) :
    ArmFor flags0 classFile x code maxLocals ret World_1 tables_1 room_1 Calls_1 rest_1 Pre_1
      (fun tb e a s o t => postC L tb e a s o t ∧ State.butDraws s t [Jvm.Choice.named "NaN.bits"] (fun t1 => Framed s o t1 (fieldLocs frame_1_writes a s ++ arrayLocs frame_1_arrays a s ++ staticLocs frame_1_statics s) 603072 7178346)) := by
  intro l hflags _ _ p e ha hc hk s m args below hf hfit hheap happ hpre
  obtain ⟨k, o, h1, h2, h3, rfl, hF⟩ := lw_comes l hflags p e ha hc hk s m args below hf hfit hheap happ hpre
  exact ⟨k, _, h1, h2, h3, hL args s _, lw_frame hF⟩
theorem i_vc : Claimed_1_1 ∧ Claimed_1_2 := ⟨lw_limb limb_1_1 (fun args s t => by simp [limb_1_1, Cond.after, Cond.holds, Cond.value]), lw_limb limb_1_2 (fun args s t => Cond.after_iff.mpr (by
  first | (rw [show limb_1_2 = Cond.eq .result (.int 1) from rfl, Cond.eq_ints (x := 1) (y := 1) rfl rfl]; simp; done) | (simp [limb_1_2, Cond.value, Term.eval]; done)))⟩
