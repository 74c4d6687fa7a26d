/-! ===== LAYER 1: rows of the heap ===== -/
def okO (Z : mZ) (b t : Nat) : Bool := decide (8 ≤ b) && decide (b < Z.1) && decide (Z.2.1 b = t)
def okI (Z : mZ) (b : Nat) : Bool := decide (b < 5) || okO Z b 20
def inB (i : Int32) (n : Nat) : Bool := decide (0 ≤ i) && decide (i.toNatClampNeg < n)
def isRefT : FieldType → Bool
  | .object _ => true
  | .array _ => true
  | _ => false
def sI (M : mM) (b k : Nat) (v : Int32) : mM := (fun a j => if a = b ∧ j = k then v else M.1 a j, M.2)
def sL (M : mM) (b k : Nat) (v : Int64) : mM := (M.1, fun a j => if a = b ∧ j = k then v else M.2.1 a j, M.2.2)
def sD (M : mM) (b k : Nat) (v : UInt64) : mM := (M.1, M.2.1, fun a j => if a = b ∧ j = k then v else M.2.2.1 a j, M.2.2.2)
def sR (Z : mZ) (b k c : Nat) : mZ := (Z.1, Z.2.1, Z.2.2.1, fun a j => if a = b ∧ j = k then some c else Z.2.2.2 a j)
def sT (M : mM) : mM := (M.1, M.2.1, M.2.2.1, 1)
def zNew (Z : mZ) (t len : Nat) : mZ := (Z.1 + 1, fun a => if a = Z.1 then t else Z.2.1 a, fun a => if a = Z.1 then len else Z.2.2.1 a, fun a j => if a = Z.1 then none else Z.2.2.2 a j)
def mNew (M : mM) (r : Nat) : mM := (fun a j => if a = r then 0 else M.1 a j, fun a j => if a = r then 0 else M.2.1 a j, fun a j => if a = r then 0 else M.2.2.1 a j, M.2.2.2)
theorem okO_spec {Z : mZ} {b t : Nat} (h : okO Z b t = true) : 8 ≤ b ∧ b < Z.1 ∧ Z.2.1 b = t := by
  simpa [okO, and_assoc] using h
theorem inB_spec {i : Int32} {n : Nat} (h : inB i n = true) : ¬ i < 0 ∧ i.toNatClampNeg < n := by
  simp only [inB, Bool.and_eq_true, decide_eq_true_eq] at h
  exact ⟨by simpa using h.1, h.2⟩
theorem m_fv_i {G : mG} {Z : mZ} {M : mM} {r j : Nat} (h : isRefT (m_ty (Z.2.1 r) j) = false) : m_fv G Z M r j = .int (M.1 r j) := by
  unfold m_fv
  split <;> first | rfl | (rename_i hh; rw [hh] at h; cases h)
theorem m_fv_r {G : mG} {Z : mZ} {M : mM} {r j : Nat} (h : isRefT (m_ty (Z.2.1 r) j) = true) : m_fv G Z M r j = va_rf ((Z.2.2.2 r j).map (m_ad G)) := by
  unfold m_fv
  split
  · rfl
  · rfl
  · next h1 h2 => 
    cases hh : m_ty (Z.2.1 r) j <;> first | exact absurd hh (h1 _) | exact absurd hh (h2 _) | (rw [hh] at h; cases h)
theorem m_fv_mem {G : mG} {Z : mZ} {M M1 : mM} {r : Nat} (h1 : ∀ j, M1.1 r j = M.1 r j) : m_fv G Z M1 r = m_fv G Z M r := by
  funext j
  unfold m_fv
  rw [h1 j]
theorem m_at.mem {G : mG} {Z : mZ} {M M1 : mM} {r : Nat} {H : Heap} (h : m_at G Z M r H) (h1 : ∀ j, M1.1 r j = M.1 r j) (h2 : ∀ j, M1.2.1 r j = M.2.1 r j) (h3 : ∀ j, M1.2.2.1 r j = M.2.2.1 r j) : m_at G Z M1 r H := by
  have e1 : M1.1 r = M.1 r := funext h1
  have e2 : M1.2.1 r = M.2.1 r := funext h2
  have e3 : M1.2.2.1 r = M.2.2.1 r := funext h3
  unfold m_at at h ⊢
  rw [m_fv_mem h1]
  have e4 : m_ac G Z M1 r = m_ac G Z M r := by unfold m_ac; simp only [e1, e2, e3]
  rw [e4]
  exact h
theorem m_at.shape {G : mG} {Z Z1 : mZ} {M : mM} {r : Nat} {H : Heap} (h : m_at G Z M r H) (h1 : Z1.2.1 r = Z.2.1 r) (h2 : Z1.2.2.1 r = Z.2.2.1 r) (h3 : ∀ j, Z1.2.2.2 r j = Z.2.2.2 r j) : m_at G Z1 M r H := by
  have e3 : Z1.2.2.2 r = Z.2.2.2 r := funext h3
  have e4 : m_ac G Z1 M r = m_ac G Z M r := by unfold m_ac; simp only [h1, h2, e3]
  have e5 : m_fv G Z1 M r = m_fv G Z M r := by funext j; unfold m_fv; simp only [h1, e3]
  unfold m_at at h ⊢
  rw [e4, e5, h1]
  exact h
/-- one made cell is changed -/
theorem Rep.put {G : mG} {Z Z1 : mZ} {M M1 : mM} {H H1 : Heap} {b : Nat} (h : Rep G Z M H) (hro : ∀ r, r < 5 → gO G r < gB G) (hb : 8 ≤ b) (hat : m_at G Z1 M1 b H1) (hz : H1.size = H.size) (hq : ∀ q, q ≠ m_ad G b → H1[q]? = H[q]?)
    (hm : ∀ r, r ≠ b → (∀ j, M1.1 r j = M.1 r j) ∧ (∀ j, M1.2.1 r j = M.2.1 r j) ∧ (∀ j, M1.2.2.1 r j = M.2.2.1 r j)) (hZ : Z1.1 = Z.1 ∧ Z1.2.1 = Z.2.1 ∧ Z1.2.2.1 = Z.2.2.1) (hZr : ∀ r, r ≠ b → ∀ j, Z1.2.2.2 r j = Z.2.2.2 r j) (hx : M1.2.2.2 = M.2.2.2) : Rep G Z1 M1 H1 := by
  obtain ⟨a1, a2, a3, a4, a5⟩ := h
  obtain ⟨z1, z2, z3⟩ := hZ
  refine ⟨fun r hr => ?_, fun r h8 hr => ?_, by rw [z1]; exact a3, by rw [z1, hz]; exact a4, fun h0 => by rw [z1, hz]; exact a5 (by rw [← hx]; exact h0)⟩
  · have hne : gO G r ≠ m_ad G b := by
      have := hro r hr
      rw [m_ad_hi hb]; omega
    obtain ⟨c1, c2, c3, c4⟩ := (a1 r hr).kept (hq _ hne)
    refine ⟨c1, by rw [z3]; exact c2, by rw [z3]; exact c3, fun j hj => ?_⟩
    rw [(hm r (by omega)).1 j]
    exact c4 j (by rw [← z3]; exact hj)
  · by_cases hrb : r = b
    · subst hrb; exact hat
    · obtain ⟨e1, e2, e3⟩ := hm r hrb
      have hk := (a2 r h8 (by rw [← z1]; exact hr)).kept (hq _ (fun z => hrb (m_ad_inj h8 hb z)))
      exact (hk.mem e1 e2 e3).shape (by rw [z2]) (by rw [z3]) (hZr r hrb)
theorem Rep.obj {G : mG} {Z : mZ} {M : mM} {H : Heap} {b t : Nat} (h : Rep G Z M H) (hok : okO Z b t = true) (ht : t < 20) : t_OB (m_ad G b) (G.1.1 t) (m_nf t) (G.1.2 t) H (m_fv G Z M b) := by
  obtain ⟨h1, h2, h3⟩ := okO_spec hok
  have hh := h.2.1 b h1 h2
  unfold m_at at hh
  rw [if_pos (by rw [h3]; exact ht)] at hh
  rw [h3] at hh
  exact hh
theorem Rep.arr {G : mG} {Z : mZ} {M : mM} {H : Heap} {b t : Nat} (h : Rep G Z M H) (hok : okO Z b t = true) (ht : ¬ t < 20) : H[m_ad G b]? = some (m_ac G Z M b) := by
  obtain ⟨h1, h2, h3⟩ := okO_spec hok
  have hh := h.2.1 b h1 h2
  unfold m_at at hh
  rw [if_neg (by rw [h3]; exact ht)] at hh
  exact hh
theorem gA_ad {G : mG} {b : Nat} (h : 8 ≤ b) : gA G (m_ad G b) := by unfold gA; rw [m_ad_hi h]; omega
/-- a new cell at the heap's end -/
theorem Rep.new {G : mG} {Z : mZ} {M : mM} {H H1 : Heap} {t len : Nat} (h : Rep G Z M H) (hx : M.2.2.2 = 0) (hro : ∀ r, r < 5 → gO G r < gB G) (hz : H1.size = H.size + 1) (hq : ∀ q, q < H.size → H1[q]? = H[q]?)
    (hat : m_at G (zNew Z t len) (mNew M Z.1) Z.1 H1) : Rep G (zNew Z t len) (mNew M Z.1) H1 ∧ m_ad G Z.1 = H.size := by
  obtain ⟨a1, a2, a3, a4, a5⟩ := h
  have hs := a5 hx
  have had : m_ad G Z.1 = H.size := by rw [m_ad_hi a3, hs]
  refine ⟨⟨fun r hr => ?_, fun r h8 hr => ?_, by show 8 ≤ Z.1 + 1; omega, by show gB G + (Z.1 + 1 - 8) ≤ H1.size; omega, fun _ => by show H1.size = gB G + (Z.1 + 1 - 8); omega⟩, had⟩
  · have hlt : gO G r < H.size := by have := hro r hr; omega
    obtain ⟨c1, c2, c3, c4⟩ := (a1 r hr).kept (hq _ hlt)
    have hne : r ≠ Z.1 := by omega
    refine ⟨c1, ?_, ?_, fun j hj => ?_⟩
    · show (if r = Z.1 then len else Z.2.2.1 r) ≤ _
      rw [if_neg hne]; exact c2
    · show _ = Int32.ofNat (if r = Z.1 then len else Z.2.2.1 r)
      rw [if_neg hne]; exact c3
    · show _ = some (Value.int (if r = Z.1 then 0 else M.1 r j))
      rw [if_neg hne]
      refine c4 j ?_
      have hj' : j < (if r = Z.1 then len else Z.2.2.1 r) := hj
      rwa [if_neg hne] at hj'
  · by_cases hrb : r = Z.1
    · subst hrb; exact hat
    · have hr' : r < Z.1 := by
        have : r < Z.1 + 1 := hr
        omega
      have hlt : m_ad G r < H.size := by rw [m_ad_hi h8, hs]; omega
      have hk := (a2 r h8 hr').kept (hq _ hlt)
      refine (hk.mem (M1 := mNew M Z.1) (fun j => ?_) (fun j => ?_) (fun j => ?_)).shape ?_ ?_ (fun j => ?_)
      · show (if r = Z.1 then 0 else M.1 r j) = _; rw [if_neg hrb]
      · show (if r = Z.1 then 0 else M.2.1 r j) = _; rw [if_neg hrb]
      · show (if r = Z.1 then 0 else M.2.2.1 r j) = _; rw [if_neg hrb]
      · show (if r = Z.1 then t else Z.2.1 r) = _; rw [if_neg hrb]
      · show (if r = Z.1 then len else Z.2.2.1 r) = _; rw [if_neg hrb]
      · show (if r = Z.1 then none else Z.2.2.2 r j) = _; rw [if_neg hrb]
theorem va_S.grow {A : Nat → Prop} {H0 H H1 : Heap} {locs : List Loc} (h : va_S A H0 H locs) (z : H1.size = H.size + 1) (oq : ∀ q : Nat, q < H.size → H1[q]? = H[q]?) : va_S A H0 H1 locs :=
  ⟨Nat.le_trans h.1 (by omega), fun x h1 h2 => (oq x (Nat.lt_of_lt_of_le h1 h.1)).trans (h.2.1 x h1 h2), h.2.2⟩
section JR2
variable {G : mG} {p : Program} {l : Launch} {e : Env} {R : Room} {s : State} {m : MethodId} {args : Array Value} {below : List Frame} {meth : Method} {c : Code} {nL k n : Nat} {Q : State → Prop} {own : String} {cc : ByteArray} {ret : Option FieldType} {tb : List ExceptionTableEntry}
variable {pc : Nat} {L : mL} {st : List Value} {Z : mZ} {M : mM}
theorem j_getI (C : Cx G p l s m args meth c own cc nL ret tb) {cn : String} {T : u_T} {N ci idx b : Nat} (hc : m_cl[ci]? = some (cn, T, N)) (hin : ∀ w ∈ u_ws cn T N, w ∈ gw) (hok : okO Z b ci = true) (k1 : Nat) (hk : k1 < N ∧ k1 < m_nf ci ∧ ci < 20 ∧ isRefT (m_ty ci k1) = false) (hd : (T k1).1 = cn) (hw : Cond.fieldLink own idx cn (T k1).2.1 (T k1).2.2.1 ∈ gw) (d : decode cc pc = .ok (.getfield idx, 3))
    (kk : JJ G p l e R s m args below meth c nL Q k n (pc + 3) L (.int (M.1 b k1) :: st) Z M) : JJ G p l e R s m args below meth c nL Q k n pc L (.ref b :: st) Z M := by
  intro H locs ls hR hS hL
  obtain ⟨hk1, hk2, hk3, hk4⟩ := hk
  obtain ⟨cell, q1, q2, q3, q4⟩ := hR.obj hok hk3
  obtain ⟨hSl, hfc, kC, hkC, hkind⟩ := C.2.2.2.2.2.2.1.1.1 ci _ hc
  obtain ⟨cf, kf, fi, f, hi, hsl⟩ := hSl k1 hk1
  rw [hd] at hi
  have hlay := u_lays (C := cn) (T := T) C.2.2.2.2.1 hin hk1
  rw [hd] at hlay
  refine W.getf C.1 C.2.1 C.2.2.2.1 (C.2.2.2.2.1 _ hw) hi (u_facts hfc hkC hlay hi).1 q1 (by rw [q3]; exact fun h => by cases h) (v := .int (M.1 b k1)) ?_ rfl rfl d (kk H locs ls hR hS hL)
  rw [hsl, q4 k1 hk2, m_fv_i (by rw [(okO_spec hok).2.2]; exact hk4)]
theorem j_getR (C : Cx G p l s m args meth c own cc nL ret tb) {cn : String} {T : u_T} {N ci idx b c1 : Nat} (hc : m_cl[ci]? = some (cn, T, N)) (hin : ∀ w ∈ u_ws cn T N, w ∈ gw) (hok : okO Z b ci = true) (k1 : Nat) (hk : k1 < N ∧ k1 < m_nf ci ∧ ci < 20 ∧ isRefT (m_ty ci k1) = true) (hd : (T k1).1 = cn) (hw : Cond.fieldLink own idx cn (T k1).2.1 (T k1).2.2.1 ∈ gw) (d : decode cc pc = .ok (.getfield idx, 3)) (hr : Z.2.2.2 b k1 = some c1)
    (kk : JJ G p l e R s m args below meth c nL Q k n (pc + 3) L (.ref c1 :: st) Z M) : JJ G p l e R s m args below meth c nL Q k n pc L (.ref b :: st) Z M := by
  intro H locs ls hR hS hL
  obtain ⟨hk1, hk2, hk3, hk4⟩ := hk
  obtain ⟨cell, q1, q2, q3, q4⟩ := hR.obj hok hk3
  obtain ⟨hSl, hfc, kC, hkC, hkind⟩ := C.2.2.2.2.2.2.1.1.1 ci _ hc
  obtain ⟨cf, kf, fi, f, hi, hsl⟩ := hSl k1 hk1
  rw [hd] at hi
  have hlay := u_lays (C := cn) (T := T) C.2.2.2.2.1 hin hk1
  rw [hd] at hlay
  refine W.getf C.1 C.2.1 C.2.2.2.1 (C.2.2.2.2.1 _ hw) hi (u_facts hfc hkC hlay hi).1 q1 (by rw [q3]; exact fun h => by cases h) (v := .ref (m_ad G c1)) ?_ rfl rfl d (kk H locs ls hR hS hL)
  rw [hsl, q4 k1 hk2, m_fv_r (by rw [(okO_spec hok).2.2]; exact hk4), hr]
  rfl
theorem j_putI (C : Cx G p l s m args meth c own cc nL ret tb) {cn : String} {T : u_T} {N ci idx b : Nat} {v : Int32} (ty : Nat → FieldType) (hty : ∀ k, k < N → parseFieldDescriptor (T k).2.2.1 = some (ty k)) (hnm : ∀ a, a < N → ∀ b, b < N → a ≠ b → (T a).2.1 ≠ (T b).2.1) (hc : m_cl[ci]? = some (cn, T, N)) (hin : ∀ w ∈ u_ws cn T N, w ∈ gw) (hok : okO Z b ci = true) (k1 : Nat) (hk : k1 < N ∧ m_nf ci = N ∧ ci < 20 ∧ isRefT (m_ty ci k1) = false ∧ (T k1).2.2.2 = false) (hd : (T k1).1 = cn) (hw : Cond.fieldLink own idx cn (T k1).2.1 (T k1).2.2.1 ∈ gw) (hv : narrow (ty k1) (.int v) = .int v ∧ fits (ty k1) (.int v) = true) (d : decode cc pc = .ok (.putfield idx, 3))
    (kk : JJ G p l e R s m args below meth c nL Q k n (pc + 3) L st Z (sI M b k1 v)) : JJ G p l e R s m args below meth c nL Q k n pc L (.int v :: .ref b :: st) Z M := by
  intro H locs ls hR hS hL
  obtain ⟨hk1, hkN, hk3, hk4, hfin⟩ := hk
  obtain ⟨o1, o2, o3⟩ := okO_spec hok
  have hts := C.2.2.2.2.1
  have hK := C.2.2.2.2.2.2.1.1
  have hap := va_apart (own := own) hts hin ty hty hnm hK hc
  obtain ⟨cell, q1, q2, q3, q4⟩ := hR.obj hok hk3
  obtain ⟨hSl, hfc, kC, hkC, hkind⟩ := hK.1 ci _ hc
  obtain ⟨cf, kf, fi, f, hi, hsl⟩ := hSl k1 hk1
  have hlay := hts _ (hin _ (u_in_lay hk1))
  unfold u_lay at hlay
  rw [if_neg (by rw [hfin]; decide)] at hlay
  have hst := (u_facts hfc hkC (u_lays hts hin hk1) hi).1
  have h6 := u_store hfc hkC hkind hlay hi (hty k1 hk1) hv.1 hv.2
  have hi' := hi
  rw [hd] at hi'
  refine W.putK C.1 C.2.1 (f := f) ⟨C.2.2.2.1, hts _ hw, ⟨_, _, _, hi'⟩, hst⟩ (by rw [q2]; exact h6) q1 q3 (by rw [hsl]; exact k2_hasslot (q4 k1 (by rw [hkN]; exact hk1))) rfl rfl d fun H' e1 e2 e3 => ?_
  rw [hsl] at e1 ⊢
  refine kk H' _ ls ?_ (hS.put e2 e3 (gA_ad o1)) hL
  refine hR.put (b := b) (fun r hr => (C.2.2.2.2.2.2.1.2.1 r hr).2.2) o1 ?_ e2 e3 (fun r hr => ⟨fun j => ?_, fun j => rfl, fun j => rfl⟩) ⟨rfl, rfl, rfl⟩ (fun _ _ _ => rfl) rfl
  · unfold m_at
    rw [if_pos (by rw [o3]; exact hk3), o3]
    refine t_OB.to (V := updV (m_fv G Z M b) k1 (.int v)) ⟨_, e1, q2, q3, t_set q4 (by rw [hkN]; exact hap) (by rw [hkN]; exact hk1) _⟩ (fun j hj => ?_)
    unfold updV
    by_cases hjk : j = k1
    · subst hjk
      rw [if_pos rfl, m_fv_i (by rw [o3]; exact hk4)]
      simp [sI]
    · rw [if_neg hjk]
      unfold m_fv
      simp [sI, hjk]
  · simp [sI, hr]
theorem j_putR (C : Cx G p l s m args meth c own cc nL ret tb) (hin2 : meth.name = "<init>") {T : u_T} {N ci idx b c1 : Nat} (ty : Nat → FieldType) (hty : ∀ k, k < N → parseFieldDescriptor (T k).2.2.1 = some (ty k)) (hnm : ∀ a, a < N → ∀ b, b < N → a ≠ b → (T a).2.1 ≠ (T b).2.1) (hc : m_cl[ci]? = some (own, T, N)) (hin : ∀ w ∈ u_ws own T N, w ∈ gw) (hok : okO Z b ci = true) (k1 : Nat) (hk : k1 < N ∧ m_nf ci = N ∧ ci < 20 ∧ isRefT (m_ty ci k1) = true ∧ (T k1).2.2.2 = true) (hd : (T k1).1 = own) (hw : Cond.fieldLink own idx own (T k1).2.1 (T k1).2.2.1 ∈ gw) (hv : ∀ q, narrow (ty k1) (.ref q) = .ref q ∧ fits (ty k1) (.ref q) = true) (d : decode cc pc = .ok (.putfield idx, 3))
    (kk : JJ G p l e R s m args below meth c nL Q k n (pc + 3) L st (sR Z b k1 c1) M) : JJ G p l e R s m args below meth c nL Q k n pc L (.ref c1 :: .ref b :: st) Z M := by
  intro H locs ls hR hS hL
  obtain ⟨hk1, hkN, hk3, hk4, hfin⟩ := hk
  obtain ⟨o1, o2, o3⟩ := okO_spec hok
  have hts := C.2.2.2.2.1
  have hK := C.2.2.2.2.2.2.1.1
  have hap := va_apart (own := own) hts hin ty hty hnm hK hc
  obtain ⟨cell, q1, q2, q3, q4⟩ := hR.obj hok hk3
  obtain ⟨hSl, hfc, kC, hkC, hkind⟩ := hK.1 ci _ hc
  obtain ⟨cf, kf, fi, f, hi, hsl⟩ := hSl k1 hk1
  have hlay := hts _ (hin _ (u_in_lay hk1))
  unfold u_lay at hlay
  rw [if_pos hfin] at hlay
  have hst := (u_facts hfc hkC (u_lays hts hin hk1) hi).1
  have hcf : m.cls = cf := by
    obtain ⟨_, _, c', _, _, _, -, -, hf', -, -, -, hown2, -⟩ := Cond.laysFinal_spec hlay
    have e1 : c' = cf := by have := hi.symm.trans hf'; simp at this; exact this.1.symm
    rw [hd] at hown2
    rw [← e1]; exact Option.some.inj (C.2.2.2.1.symm.trans hown2)
  have h6 := u_fits hfc hkC hkind (Or.inr hlay) hi (hty k1 hk1) (hv (m_ad G c1)).1 (hv (m_ad G c1)).2
  have hi' := hi
  rw [hd] at hi'
  refine W.putFinK C.1 C.2.1 C.2.2.2.1 (hts _ hw) hi' hst hcf hin2 (by rw [q2]; exact h6) q1 q3 (by rw [hsl]; exact k2_hasslot (q4 k1 (by rw [hkN]; exact hk1))) rfl rfl d fun H' e1 e2 e3 => ?_
  rw [hsl] at e1 ⊢
  refine kk H' _ ls ?_ (hS.put e2 e3 (gA_ad o1)) hL
  refine hR.put (b := b) (fun r hr => (C.2.2.2.2.2.2.1.2.1 r hr).2.2) o1 ?_ e2 e3 (fun r hr => ⟨fun j => rfl, fun j => rfl, fun j => rfl⟩) ⟨rfl, rfl, rfl⟩ (fun r hr j => ?_) rfl
  · unfold m_at
    show (if Z.2.1 b < 20 then _ else _)
    rw [if_pos (by rw [o3]; exact hk3)]
    show t_OB (m_ad G b) (G.1.1 (Z.2.1 b)) (m_nf (Z.2.1 b)) (G.1.2 (Z.2.1 b)) H' _
    rw [o3]
    refine t_OB.to (V := updV (m_fv G Z M b) k1 (.ref (m_ad G c1))) ⟨_, e1, q2, q3, t_set q4 (by rw [hkN]; exact hap) (by rw [hkN]; exact hk1) _⟩ (fun j hj => ?_)
    unfold updV
    by_cases hjk : j = k1
    · subst hjk
      rw [if_pos rfl, m_fv_r (by show isRefT (m_ty (Z.2.1 b) j) = true; rw [o3]; exact hk4)]
      simp [sR, va_rf]
    · rw [if_neg hjk]
      unfold m_fv
      simp [sR, hjk]
  · simp [sR, hr]
end JR2
