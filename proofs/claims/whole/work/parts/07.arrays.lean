/-! ===== LAYER 1: rows of arrays, of makings, of statics ===== -/
def chN (x : Int32) : Int32 := x.toUInt32.toUInt16.toUInt32.toInt32
theorem Ev.ro {G : mG} {U : State} (h : Ev G U) : ∀ r, r < 5 → gO G r < gB G := fun r hr => (h.2.1 r hr).2.2
theorem Ev.at0 {G : mG} {U : State} (h : Ev G U) {i : Nat} {q : ClassId × FieldType} (hq : (m_tys G)[i]? = some q) : ArrOfT U q.1 q.2 := (h.1.2 i q hq).1
theorem okI_spec {Z : mZ} {b : Nat} (h : okI Z b = true) : b < 5 ∨ okO Z b 20 = true := by
  simpa [okI] using h
theorem m_ac_20 {G : mG} {Z : mZ} {M : mM} {b : Nat} (h : Z.2.1 b = 20) : m_ac G Z M b = arrV (gT G 20) (Z.2.2.1 b) (fun j => .int (M.1 b j)) := by unfold m_ac; simp [h]
theorem m_ac_21 {G : mG} {Z : mZ} {M : mM} {b : Nat} (h : Z.2.1 b = 21) : m_ac G Z M b = arrV (gT G 21) (Z.2.2.1 b) (fun j => .int (M.1 b j)) := by unfold m_ac; simp [h]
theorem m_ac_22 {G : mG} {Z : mZ} {M : mM} {b : Nat} (h : Z.2.1 b = 22) : m_ac G Z M b = arrV (gT G 22) (Z.2.2.1 b) (fun j => .long (M.2.1 b j)) := by unfold m_ac; simp [h]
theorem m_ac_23 {G : mG} {Z : mZ} {M : mM} {b : Nat} (h : Z.2.1 b = 23) : m_ac G Z M b = arrV (gT G 23) (Z.2.2.1 b) (fun j => .double (M.2.2.1 b j)) := by unfold m_ac; simp [h]
theorem m_ac_24 {G : mG} {Z : mZ} {M : mM} {b : Nat} (h : Z.2.1 b = 24) : m_ac G Z M b = arrV (gT G 24) (Z.2.2.1 b) (fun j => va_rf ((Z.2.2.2 b j).map (m_ad G))) := by unfold m_ac; simp [h]
/-- a changed array -/
theorem m_at_arr {G : mG} {Z : mZ} {M : mM} {b t : Nat} {H : Heap} {x : Cell} (h : H[m_ad G b]? = some x) (ht : Z.2.1 b = t) (h20 : ¬ t < 20) (hx : m_ac G Z M b = x) : m_at G Z M b H := by
  unfold m_at
  rw [if_neg (by rw [ht]; exact h20), hx]
  exact h
section JR3
variable {G : mG} {p : Program} {l : Launch} {e : Env} {R : Room} {s : State} {m : MethodId} {args : Array Value} {below : List Frame} {meth : Method} {c : Code} {nL k n : Nat} {Q : State → Prop} {own : String} {cc : ByteArray} {ret : Option FieldType} {tb : List ExceptionTableEntry}
variable {pc : Nat} {L : mL} {st : List Value} {Z : mZ} {M : mM}
theorem j_iald (C : Cx G p l s m args meth c own cc nL ret tb) {b : Nat} {i : Int32} (hok : okI Z b = true) (hi : inB i (Z.2.2.1 b) = true) (d : decode cc pc = .ok (.iaload, 1))
    (kk : JJ G p l e R s m args below meth c nL Q k n (pc + 1) L (.int (M.1 b i.toNatClampNeg) :: st) Z M) : JJ G p l e R s m args below meth c nL Q k n pc L (.int i :: .ref b :: st) Z M := by
  intro H locs ls hR hS hL
  obtain ⟨h0, hlt⟩ := inB_spec hi
  have hE := C.2.2.2.2.2.2.1
  rcases okI_spec hok with hb | hok
  · obtain ⟨r1, r2, r3, r4⟩ := hR.1 b hb
    refine W.iald (v := .int (M.1 b i.toNatClampNeg)) C.1 C.2.1 (a := m_ad G b) (cell := gC G b) (by rw [m_ad_lo (by omega)]; exact r1) (hE.2.1 b hb).1 (hE.2.1 b hb).2.1 (fun q => ?_) (r4 _ hlt) rfl rfl d (kk H locs ls hR hS hL)
    rcases q with q | q
    · exact h0 q
    · omega
  · obtain ⟨o1, o2, o3⟩ := okO_spec hok
    have hc := hR.arr hok (by decide)
    rw [m_ac_20 o3] at hc
    exact W.iald (v := .int (M.1 b i.toNatClampNeg)) C.1 C.2.1 hc (hE.at0 (i := 0) rfl _ _) (fun q => by cases q) (fun q => by rw [arrV_size] at q; rcases q with q | q; exact h0 q; omega) (by rw [arrV_read _ _ hlt]) rfl rfl d (kk H locs ls hR hS hL)
theorem j_alen (C : Cx G p l s m args meth c own cc nL ret tb) {b : Nat} (hok : okI Z b = true) (d : decode cc pc = .ok (.arraylength, 1))
    (kk : JJ G p l e R s m args below meth c nL Q k n (pc + 1) L (.int (Int32.ofNat (Z.2.2.1 b)) :: st) Z M) : JJ G p l e R s m args below meth c nL Q k n pc L (.ref b :: st) Z M := by
  intro H locs ls hR hS hL
  have hE := C.2.2.2.2.2.2.1
  rcases okI_spec hok with hb | hok
  · obtain ⟨r1, r2, r3, r4⟩ := hR.1 b hb
    exact W.alen C.1 C.2.1 (a := m_ad G b) (cell := gC G b) (by rw [m_ad_lo (by omega)]; exact r1) (hE.2.1 b hb).1 r3 rfl rfl d (kk H locs ls hR hS hL)
  · obtain ⟨o1, o2, o3⟩ := okO_spec hok
    have hc := hR.arr hok (by decide)
    rw [m_ac_20 o3] at hc
    exact W.alen C.1 C.2.1 hc (hE.at0 (i := 0) rfl _ _) (by rw [arrV_size] <;> rfl) rfl rfl d (kk H locs ls hR hS hL)
theorem j_clen (C : Cx G p l s m args meth c own cc nL ret tb) {b : Nat} (hok : okO Z b 21 = true) (d : decode cc pc = .ok (.arraylength, 1))
    (kk : JJ G p l e R s m args below meth c nL Q k n (pc + 1) L (.int (Int32.ofNat (Z.2.2.1 b)) :: st) Z M) : JJ G p l e R s m args below meth c nL Q k n pc L (.ref b :: st) Z M := by
  intro H locs ls hR hS hL
  have hE := C.2.2.2.2.2.2.1
  obtain ⟨o1, o2, o3⟩ := okO_spec hok
  have hc := hR.arr hok (by decide)
  rw [m_ac_21 o3] at hc
  exact W.alen C.1 C.2.1 hc (hE.at0 (i := 1) rfl _ _) (by rw [arrV_size] <;> rfl) rfl rfl d (kk H locs ls hR hS hL)
theorem j_qlen (C : Cx G p l s m args meth c own cc nL ret tb) {b : Nat} (hok : okO Z b 24 = true) (d : decode cc pc = .ok (.arraylength, 1))
    (kk : JJ G p l e R s m args below meth c nL Q k n (pc + 1) L (.int (Int32.ofNat (Z.2.2.1 b)) :: st) Z M) : JJ G p l e R s m args below meth c nL Q k n pc L (.ref b :: st) Z M := by
  intro H locs ls hR hS hL
  have hE := C.2.2.2.2.2.2.1
  obtain ⟨o1, o2, o3⟩ := okO_spec hok
  have hc := hR.arr hok (by decide)
  rw [m_ac_24 o3] at hc
  exact W.alen C.1 C.2.1 hc (hE.at0 (i := 4) rfl _ _) (by rw [arrV_size] <;> rfl) rfl rfl d (kk H locs ls hR hS hL)
theorem j_cald (C : Cx G p l s m args meth c own cc nL ret tb) {b : Nat} {i : Int32} (hok : okO Z b 21 = true) (hi : inB i (Z.2.2.1 b) = true) (d : decode cc pc = .ok (.caload, 1))
    (kk : JJ G p l e R s m args below meth c nL Q k n (pc + 1) L (.int (M.1 b i.toNatClampNeg) :: st) Z M) : JJ G p l e R s m args below meth c nL Q k n pc L (.int i :: .ref b :: st) Z M := by
  intro H locs ls hR hS hL
  obtain ⟨h0, hlt⟩ := inB_spec hi
  obtain ⟨o1, o2, o3⟩ := okO_spec hok
  have hc := hR.arr hok (by decide)
  rw [m_ac_21 o3] at hc
  exact W.cald (v := .int (M.1 b i.toNatClampNeg)) C.1 C.2.1 hc (C.2.2.2.2.2.2.1.at0 (i := 1) rfl _ _) (fun q => by cases q) (fun q => by rw [arrV_size] at q; rcases q with q | q; exact h0 q; omega) (by rw [arrV_read _ _ hlt]) rfl rfl d (kk H locs ls hR hS hL)
theorem j_lald (C : Cx G p l s m args meth c own cc nL ret tb) {b : Nat} {i : Int32} (hok : okO Z b 22 = true) (hi : inB i (Z.2.2.1 b) = true) (d : decode cc pc = .ok (.laload, 1))
    (kk : JJ G p l e R s m args below meth c nL Q k n (pc + 1) L (.long (M.2.1 b i.toNatClampNeg) :: st) Z M) : JJ G p l e R s m args below meth c nL Q k n pc L (.int i :: .ref b :: st) Z M := by
  intro H locs ls hR hS hL
  obtain ⟨h0, hlt⟩ := inB_spec hi
  obtain ⟨o1, o2, o3⟩ := okO_spec hok
  have hc := hR.arr hok (by decide)
  rw [m_ac_22 o3] at hc
  exact W.lald (v := .long (M.2.1 b i.toNatClampNeg)) C.1 C.2.1 hc (C.2.2.2.2.2.2.1.at0 (i := 2) rfl _ _) (fun q => by cases q) (fun q => by rw [arrV_size] at q; rcases q with q | q; exact h0 q; omega) (by rw [arrV_read _ _ hlt]) rfl rfl d (kk H locs ls hR hS hL)
theorem j_dald (C : Cx G p l s m args meth c own cc nL ret tb) {b : Nat} {i : Int32} (hok : okO Z b 23 = true) (hi : inB i (Z.2.2.1 b) = true) (d : decode cc pc = .ok (.daload, 1))
    (kk : JJ G p l e R s m args below meth c nL Q k n (pc + 1) L (.double (M.2.2.1 b i.toNatClampNeg) :: st) Z M) : JJ G p l e R s m args below meth c nL Q k n pc L (.int i :: .ref b :: st) Z M := by
  intro H locs ls hR hS hL
  obtain ⟨h0, hlt⟩ := inB_spec hi
  obtain ⟨o1, o2, o3⟩ := okO_spec hok
  have hc := hR.arr hok (by decide)
  rw [m_ac_23 o3] at hc
  exact W.dald (v := .double (M.2.2.1 b i.toNatClampNeg)) C.1 C.2.1 hc (C.2.2.2.2.2.2.1.at0 (i := 3) rfl _ _) (fun q => by cases q) (fun q => by rw [arrV_size] at q; rcases q with q | q; exact h0 q; omega) (by rw [arrV_read _ _ hlt]) rfl rfl d (kk H locs ls hR hS hL)
theorem j_aald (C : Cx G p l s m args meth c own cc nL ret tb) {b c1 : Nat} {i : Int32} (hok : okO Z b 24 = true) (hi : inB i (Z.2.2.1 b) = true) (hr : Z.2.2.2 b i.toNatClampNeg = some c1) (d : decode cc pc = .ok (.aaload, 1))
    (kk : JJ G p l e R s m args below meth c nL Q k n (pc + 1) L (.ref c1 :: st) Z M) : JJ G p l e R s m args below meth c nL Q k n pc L (.int i :: .ref b :: st) Z M := by
  intro H locs ls hR hS hL
  obtain ⟨h0, hlt⟩ := inB_spec hi
  obtain ⟨o1, o2, o3⟩ := okO_spec hok
  have hc := hR.arr hok (by decide)
  rw [m_ac_24 o3] at hc
  exact W.aald (v := .ref (m_ad G c1)) (ty := .object RX4) C.1 C.2.1 hc (C.2.2.2.2.2.2.1.at0 (i := 4) rfl _ _) rfl (fun q => by cases q) (fun q => by rw [arrV_size] at q; rcases q with q | q; exact h0 q; omega) (by rw [arrV_read _ _ hlt, hr]; rfl) rfl rfl d (kk H locs ls hR hS hL)
theorem j_iast (C : Cx G p l s m args meth c own cc nL ret tb) {b : Nat} {i x : Int32} (hok : okO Z b 20 = true) (hi : inB i (Z.2.2.1 b) = true) (d : decode cc pc = .ok (.iastore, 1))
    (kk : JJ G p l e R s m args below meth c nL Q k n (pc + 1) L st Z (sI M b i.toNatClampNeg x)) : JJ G p l e R s m args below meth c nL Q k n pc L (.int x :: .int i :: .ref b :: st) Z M := by
  intro H locs ls hR hS hL
  obtain ⟨h0, hlt⟩ := inB_spec hi
  obtain ⟨o1, o2, o3⟩ := okO_spec hok
  have hc := hR.arr hok (by decide)
  rw [m_ac_20 o3] at hc
  refine W.iast C.1 C.2.1 hc (C.2.2.2.2.2.2.1.at0 (i := 0) rfl _ _) (fun q => by cases q) (fun q => by rw [arrV_size] at q; rcases q with q | q; exact h0 q; omega) rfl rfl d fun H1 e1 z oq => ?_
  refine kk H1 _ ls ?_ (hS.put z oq (gA_ad o1)) hL
  refine hR.put (b := b) C.2.2.2.2.2.2.1.ro o1 (m_at_arr e1 o3 (by decide) ?_) z oq (fun r hr => ⟨fun j => by simp [sI, hr], fun j => rfl, fun j => rfl⟩) ⟨rfl, rfl, rfl⟩ (fun _ _ _ => rfl) rfl
  rw [m_ac_20 o3, arrV_store]
  congr 1
  funext j
  by_cases hj : j = i.toNatClampNeg <;> simp [updV, sI, hj]
theorem j_cast (C : Cx G p l s m args meth c own cc nL ret tb) {b : Nat} {i x : Int32} (hok : okO Z b 21 = true) (hi : inB i (Z.2.2.1 b) = true) (d : decode cc pc = .ok (.castore, 1))
    (kk : JJ G p l e R s m args below meth c nL Q k n (pc + 1) L st Z (sI M b i.toNatClampNeg (chN x))) : JJ G p l e R s m args below meth c nL Q k n pc L (.int x :: .int i :: .ref b :: st) Z M := by
  intro H locs ls hR hS hL
  obtain ⟨h0, hlt⟩ := inB_spec hi
  obtain ⟨o1, o2, o3⟩ := okO_spec hok
  have hc := hR.arr hok (by decide)
  rw [m_ac_21 o3] at hc
  refine W.cast C.1 C.2.1 hc (C.2.2.2.2.2.2.1.at0 (i := 1) rfl _ _) (fun q => by cases q) (fun q => by rw [arrV_size] at q; rcases q with q | q; exact h0 q; omega) rfl rfl d fun H1 e1 z oq => ?_
  refine kk H1 _ ls ?_ (hS.put z oq (gA_ad o1)) hL
  refine hR.put (b := b) C.2.2.2.2.2.2.1.ro o1 (m_at_arr e1 o3 (by decide) ?_) z oq (fun r hr => ⟨fun j => by simp [sI, hr], fun j => rfl, fun j => rfl⟩) ⟨rfl, rfl, rfl⟩ (fun _ _ _ => rfl) rfl
  rw [m_ac_21 o3, arrV_store]
  congr 1
  funext j
  by_cases hj : j = i.toNatClampNeg
  · subst hj; simp [updV, sI, narrow, chN]
  · simp [updV, sI, hj]
theorem j_last (C : Cx G p l s m args meth c own cc nL ret tb) {b : Nat} {i : Int32} {x : Int64} (hok : okO Z b 22 = true) (hi : inB i (Z.2.2.1 b) = true) (d : decode cc pc = .ok (.lastore, 1))
    (kk : JJ G p l e R s m args below meth c nL Q k n (pc + 1) L st Z (sL M b i.toNatClampNeg x)) : JJ G p l e R s m args below meth c nL Q k n pc L (.long x :: .int i :: .ref b :: st) Z M := by
  intro H locs ls hR hS hL
  obtain ⟨h0, hlt⟩ := inB_spec hi
  obtain ⟨o1, o2, o3⟩ := okO_spec hok
  have hc := hR.arr hok (by decide)
  rw [m_ac_22 o3] at hc
  refine W.last C.1 C.2.1 hc (C.2.2.2.2.2.2.1.at0 (i := 2) rfl _ _) (fun q => by cases q) (fun q => by rw [arrV_size] at q; rcases q with q | q; exact h0 q; omega) rfl rfl d fun H1 e1 z oq => ?_
  refine kk H1 _ ls ?_ (hS.put z oq (gA_ad o1)) hL
  refine hR.put (b := b) C.2.2.2.2.2.2.1.ro o1 (m_at_arr e1 o3 (by decide) ?_) z oq (fun r hr => ⟨fun j => rfl, fun j => by simp [sL, hr], fun j => rfl⟩) ⟨rfl, rfl, rfl⟩ (fun _ _ _ => rfl) rfl
  rw [m_ac_22 o3, arrV_store]
  congr 1
  funext j
  by_cases hj : j = i.toNatClampNeg <;> simp [updV, sL, hj]
theorem j_dast (C : Cx G p l s m args meth c own cc nL ret tb) {b : Nat} {i : Int32} {x : UInt64} (hok : okO Z b 23 = true) (hi : inB i (Z.2.2.1 b) = true) (d : decode cc pc = .ok (.dastore, 1))
    (kk : JJ G p l e R s m args below meth c nL Q k n (pc + 1) L st Z (sD M b i.toNatClampNeg x)) : JJ G p l e R s m args below meth c nL Q k n pc L (.double x :: .int i :: .ref b :: st) Z M := by
  intro H locs ls hR hS hL
  obtain ⟨h0, hlt⟩ := inB_spec hi
  obtain ⟨o1, o2, o3⟩ := okO_spec hok
  have hc := hR.arr hok (by decide)
  rw [m_ac_23 o3] at hc
  refine W.dast C.1 C.2.1 hc (C.2.2.2.2.2.2.1.at0 (i := 3) rfl _ _) (fun q => by cases q) (fun q => by rw [arrV_size] at q; rcases q with q | q; exact h0 q; omega) rfl rfl d fun H1 e1 z oq => ?_
  refine kk H1 _ ls ?_ (hS.put z oq (gA_ad o1)) hL
  refine hR.put (b := b) C.2.2.2.2.2.2.1.ro o1 (m_at_arr e1 o3 (by decide) ?_) z oq (fun r hr => ⟨fun j => rfl, fun j => rfl, fun j => by simp [sD, hr]⟩) ⟨rfl, rfl, rfl⟩ (fun _ _ _ => rfl) rfl
  rw [m_ac_23 o3, arrV_store]
  congr 1
  funext j
  by_cases hj : j = i.toNatClampNeg <;> simp [updV, sD, hj]
/-- a made plan is put into the row of plans -/
theorem j_aast (C : Cx G p l s m args meth c own cc nL ret tb) {b c1 : Nat} {i : Int32} (hok : okO Z b 24 = true) (hi : inB i (Z.2.2.1 b) = true) (hok1 : okO Z c1 4 = true) (d : decode cc pc = .ok (.aastore, 1))
    (kk : JJ G p l e R s m args below meth c nL Q k n (pc + 1) L st (sR Z b i.toNatClampNeg c1) M) : JJ G p l e R s m args below meth c nL Q k n pc L (.ref c1 :: .int i :: .ref b :: st) Z M := by
  intro H locs ls hR hS hL
  obtain ⟨h0, hlt⟩ := inB_spec hi
  obtain ⟨o1, o2, o3⟩ := okO_spec hok
  have hE := C.2.2.2.2.2.2.1
  have hc := hR.arr hok (by decide)
  rw [m_ac_24 o3] at hc
  obtain ⟨cellV, g1, g2, g3, -⟩ := hR.obj hok1 (by decide)
  have hcls := (hE.1.1 4 _ rfl).2
  obtain ⟨kA, comp, k1, k2, k3, -⟩ := (hE.1.2 4 (gT G 24, .object RX4) rfl).2
  have hcomp : comp = G.1.1 4 := Option.some.inj (k3.symm.trans hcls.1)
  subst hcomp
  obtain ⟨kC, hkC, -⟩ := id hcls.2
  refine W.aast C.1 C.2.1 hc (fun q h => by cases h) (fun h => by cases h) k1 k2 rfl hkC ⟨h0, by rw [arrV_size]; exact hlt⟩ g1 (fun q h => by rw [g3] at h; cases h) (by rw [g2]; exact hkC) (by rw [g2]; exact va_assign hcls) rfl rfl d fun H1 e1 z oq => ?_
  refine kk H1 _ ls ?_ (hS.put z oq (gA_ad o1)) hL
  refine hR.put (b := b) hE.ro o1 (m_at_arr (t := 24) e1 o3 (by decide) ?_) z oq (fun r hr => ⟨fun j => rfl, fun j => rfl, fun j => rfl⟩) ⟨rfl, rfl, rfl⟩ (fun r hr j => by simp [sR, hr]) rfl
  rw [m_ac_24 (Z := sR Z b i.toNatClampNeg c1) o3, arrV_store]
  congr 1
  funext j
  by_cases hj : j = i.toNatClampNeg
  · subst hj; simp [updV, sR, va_rf]
  · simp [updV, sR, hj]
theorem j_new (C : Cx G p l s m args meth c own cc nL ret tb) {cn : String} {T : u_T} {N ci idx : Nat} (ty : Nat → FieldType) (hty : ∀ k, k < N → parseFieldDescriptor (T k).2.2.1 = some (ty k)) (hc : m_cl[ci]? = some (cn, T, N)) (hin : ∀ w ∈ u_ws cn T N, w ∈ gw) (hci : ci < 20 ∧ m_nf ci = N) (htt : ∀ j, j < N → ty j = m_ty ci j ∧ (m_ty ci j = .int ∨ m_ty ci j = .boolean ∨ isRefT (m_ty ci j) = true))
    (hw : Cond.classLink own idx cn ∈ gw ∧ Cond.instantiable cn N ∈ gw ∧ Cond.initialized cn ∈ gw) (hx : M.2.2.2 = 0) (hroom : k + 1 ≤ R.cells ∧ n + N ≤ R.slots) (d : decode cc pc = .ok (.new idx, 3))
    (kk : JJ G p l e R s m args below meth c nL Q (k + 1) (n + N) (pc + 3) L (.ref Z.1 :: st) (zNew Z ci 0) (mNew M Z.1)) : JJ G p l e R s m args below meth c nL Q k n pc L st Z M := by
  intro H locs ls hR hS hL
  have hE := C.2.2.2.2.2.2.1
  have hts := C.2.2.2.2.1
  have hKn := hE.1.1 ci _ hc
  refine W.newcK C.1 C.2.1 C.2.2.2.1 (hts _ hw.1) (hts _ hw.2.1) (hts _ hw.2.2) rfl d hroom.1 hroom.2 hKn.2.1 rfl fun H1 kC hkC e1 z1 o1 => ?_
  have hborn := u_born ty hts hin hKn hkC e1 hty
  have had0 : m_ad G Z.1 = H.size := by rw [m_ad_hi hR.2.2.1, hR.2.2.2.2 hx]
  obtain ⟨hN, had⟩ := hR.new (H1 := H1) (t := ci) (len := 0) hx hE.ro z1 o1 (by
    have hz : (zNew Z ci 0).2.1 Z.1 = ci := by simp [zNew]
    unfold m_at
    rw [if_pos (by rw [hz]; exact hci.1), hz, had0, hci.2]
    refine t_OB.to hborn (fun j hj => ?_)
    obtain ⟨t1, t2⟩ := htt j hj
    rw [t1]
    rcases t2 with t2 | t2 | t2
    · rw [m_fv_i (by rw [hz, t2]; rfl), t2]; simp [mNew, defaultValue]
    · rw [m_fv_i (by rw [hz, t2]; rfl), t2]; simp [mNew, defaultValue]
    · rw [m_fv_r (by rw [hz]; exact t2)]
      have hnone : (zNew Z ci 0).2.2.2 Z.1 j = none := by simp [zNew]
      rw [hnone]
      cases hh : m_ty ci j <;> first | rfl | (rw [hh] at t2; cases t2))
  have h2 := kk H1 locs ls hN (hS.grow z1 o1) hL
  have e2 : (Value.ref Z.1 :: st).map (m_cv G) = .ref H.size :: st.map (m_cv G) := by rw [← had]; rfl
  rw [e2] at h2
  exact h2
theorem j_newa (C : Cx G p l s m args meth c own cc nL ret tb) {at1 : ArrayType} {ln t : Nat} {i : Int32} (ht : (t = 20 ∧ at1 = .int) ∨ (t = 21 ∧ at1 = .char) ∨ (t = 22 ∧ at1 = .long) ∨ (t = 23 ∧ at1 = .double)) (hw : Cond.arrayClass (newarray.typeOf at1) ∈ gw) (hi : ¬ i < 0) (hln : i.toNatClampNeg = ln) (hsm : ln * componentBytes (newarray.typeOf at1) ≤ 536870912) (hx : M.2.2.2 = 0) (hroom : k + 1 ≤ R.cells ∧ n + ln ≤ R.slots) (d : decode cc pc = .ok (.newarray at1, 2))
    (kk : JJ G p l e R s m args below meth c nL Q (k + 1) (n + ln) (pc + 2) L (.ref Z.1 :: st) (zNew Z t ln) (mNew M Z.1)) : JJ G p l e R s m args below meth c nL Q k n pc L (.int i :: st) Z M := by
  intro H locs ls hR hS hL
  have hE := C.2.2.2.2.2.2.1
  have hts := C.2.2.2.2.1
  refine va_newaK C.1 C.2.1 (hts _ hw) rfl d rfl hi hln hsm hroom.1 hroom.2 rfl fun H1 cA e1 z1 o1 hAr hNm => ?_
  have had0 : m_ad G Z.1 = H.size := by rw [m_ad_hi hR.2.2.1, hR.2.2.2.2 hx]
  have hz : (zNew Z t ln).2.1 Z.1 = t := by simp [zNew]
  have hzl : (zNew Z t ln).2.2.1 Z.1 = ln := by simp [zNew]
  obtain ⟨hN, had⟩ := hR.new (H1 := H1) (t := t) (len := ln) hx hE.ro z1 o1 (by
    rw [← had0] at e1
    rcases ht with ⟨rfl, rfl⟩ | ⟨rfl, rfl⟩ | ⟨rfl, rfl⟩ | ⟨rfl, rfl⟩
    · refine m_at_arr e1 hz (by decide) ?_
      rw [m_ac_20 hz, hzl, show gT G 20 = cA from Option.some.inj (((hE.1.2 0 _ rfl).2).symm.trans hNm)]
      simp [mNew, defaultValue, newarray.typeOf]
    · refine m_at_arr e1 hz (by decide) ?_
      rw [m_ac_21 hz, hzl, show gT G 21 = cA from Option.some.inj (((hE.1.2 1 _ rfl).2).symm.trans hNm)]
      simp [mNew, defaultValue, newarray.typeOf]
    · refine m_at_arr e1 hz (by decide) ?_
      rw [m_ac_22 hz, hzl, show gT G 22 = cA from Option.some.inj (((hE.1.2 2 _ rfl).2).symm.trans hNm)]
      simp [mNew, defaultValue, newarray.typeOf]
    · refine m_at_arr e1 hz (by decide) ?_
      rw [m_ac_23 hz, hzl, show gT G 23 = cA from Option.some.inj (((hE.1.2 3 _ rfl).2).symm.trans hNm)]
      simp [mNew, defaultValue, newarray.typeOf])
  have h2 := kk H1 locs ls hN (hS.grow z1 o1) hL
  have e2 : (Value.ref Z.1 :: st).map (m_cv G) = .ref H.size :: st.map (m_cv G) := by rw [← had]; rfl
  rw [e2] at h2
  exact h2
theorem j_anew (C : Cx G p l s m args meth c own cc nL ret tb) {idx ln : Nat} {i : Int32} (hw : Cond.classLink own idx RX4 ∈ gw) (hover : va_AO RX4 s) (hi : ¬ i < 0) (hln : i.toNatClampNeg = ln) (hsm : ln * 4 ≤ 536870912) (hx : M.2.2.2 = 0) (hroom : k + 1 ≤ R.cells ∧ n + ln ≤ R.slots) (d : decode cc pc = .ok (.anewarray idx, 3))
    (kk : JJ G p l e R s m args below meth c nL Q (k + 1) (n + ln) (pc + 3) L (.ref Z.1 :: st) (zNew Z 24 ln) (mNew M Z.1)) : JJ G p l e R s m args below meth c nL Q k n pc L (.int i :: st) Z M := by
  intro H locs ls hR hS hL
  subst hln
  have hE := C.2.2.2.2.2.2.1
  have hts := C.2.2.2.2.1
  refine W.anew C.1 C.2.1 C.2.2.2.1 (hts _ hw) (va_AO.use hover) rfl d rfl hi hsm hroom.1 hroom.2 fun cA kA comp f1 f2 f3 f4 => ?_
  generalize hH1 : H.push ({ cls := cA, slots := Array.replicate i.toNatClampNeg .null, vm := .none } : Cell) = H1
  have z1 : H1.size = H.size + 1 := by rw [← hH1, Array.size_push]
  have e1 : H1[H.size]? = some (arrV cA i.toNatClampNeg (fun _ => .null)) := by rw [← hH1, Array.getElem?_push_size, ← arrV_new]
  have o1 : ∀ q : Nat, q < H.size → H1[q]? = H[q]? := fun q hq => by rw [← hH1, Array.getElem?_push, if_neg (Nat.ne_of_lt hq)]
  have had0 : m_ad G Z.1 = H.size := by rw [m_ad_hi hR.2.2.1, hR.2.2.2.2 hx]
  have hz : (zNew Z 24 i.toNatClampNeg).2.1 Z.1 = 24 := by simp [zNew]
  have hzl : (zNew Z 24 i.toNatClampNeg).2.2.1 Z.1 = i.toNatClampNeg := by simp [zNew]
  obtain ⟨kA2, comp2, -, -, -, h4⟩ := (hE.1.2 4 (gT G 24, .object RX4) rfl).2
  obtain ⟨hN, had⟩ := hR.new (H1 := H1) (t := 24) (len := i.toNatClampNeg) hx hE.ro z1 o1 (by
    rw [← had0] at e1
    refine m_at_arr e1 hz (by decide) ?_
    rw [m_ac_24 hz, hzl, show gT G 24 = cA from Option.some.inj (h4.symm.trans f1)]
    simp [zNew, va_rf])
  have h2 := kk H1 locs ls hN (hS.grow z1 o1) hL
  have e2 : (Value.ref Z.1 :: st).map (m_cv G) = .ref H.size :: st.map (m_cv G) := by rw [← had]; rfl
  rw [e2] at h2
  exact h2
theorem j_gets (C : Cx G p l s m args meth c own cc nL ret tb) {nm : String} {idx r : Nat} (hr : r < 8) (hZ : va_Z RX8 nm "[I" (.ref (gO G r)) (gA G) s s.heap) (hw : Cond.fieldLink own idx RX8 nm "[I" ∈ gw) (d : decode cc pc = .ok (.getstatic idx, 3))
    (kk : JJ G p l e R s m args below meth c nL Q k n (pc + 3) L (.ref r :: st) Z M) : JJ G p l e R s m args below meth c nL Q k n pc L st Z M := by
  intro H locs ls hR hS hL
  have h2 := kk H locs ls hR hS hL
  have e2 : (Value.ref r :: st).map (m_cv G) = .ref (gO G r) :: st.map (m_cv G) := by rw [← m_ad_lo hr]; rfl
  rw [e2] at h2
  exact va_gets C.1 C.2.1 hZ hS C.2.2.2.1 (C.2.2.2.2.1 _ hw) (fun _ h => h) d h2
theorem j_getsN (C : Cx G p l s m args meth c own cc nL ret tb) {nm host : String} {idx r : Nat} (hr : r < 8) (hZ : va_Z RX8 nm "[I" (.ref (gO G r)) (gA G) s s.heap) (hw : Cond.fieldLinkNest own idx RX8 nm "[I" host ∈ nw) (d : decode cc pc = .ok (.getstatic idx, 3))
    (kk : JJ G p l e R s m args below meth c nL Q k n (pc + 3) L (.ref r :: st) Z M) : JJ G p l e R s m args below meth c nL Q k n pc L st Z M := by
  intro H locs ls hR hS hL
  have h2 := kk H locs ls hR hS hL
  have e2 : (Value.ref r :: st).map (m_cv G) = .ref (gO G r) :: st.map (m_cv G) := by rw [← m_ad_lo hr]; rfl
  rw [e2] at h2
  exact va_getsN C.1 C.2.1 hZ hS C.2.2.2.1 (va_Nw.use rfl (C.2.2.2.2.2.2.1.2.2.2.2.2.2.1 _ hw)) (fun _ h => h) d h2
end JR3
