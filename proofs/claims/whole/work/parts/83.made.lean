/-! ===== LAYER 3: objects that are made ===== -/
def RZ (F : Option (Unit × (mZ × mM))) (Q : mZ → mM → Prop) : Prop := ∃ Z' M', F = some ((), (Z', M')) ∧ Q Z' M'
/-- a constructor at b has run: what was there before it stands, but for the fields of b -/
def XS (b : Nat) (Z : mZ) (M : mM) (Z' : mZ) (M' : mM) : Prop := Z.1 ≤ Z'.1 ∧ (∀ r, r < Z.1 → Z'.2.1 r = Z.2.1 r ∧ Z'.2.2.1 r = Z.2.2.1 r) ∧ (∀ r, r < Z.1 → r ≠ b → ∀ j, Z'.2.2.2 r j = Z.2.2.2 r j ∧ M'.1 r j = M.1 r j) ∧ M'.2.2.2 = M.2.2.2
theorem XS.refl {b : Nat} {Z : mZ} {M : mM} : XS b Z M Z M := ⟨Nat.le_refl _, fun _ _ => ⟨rfl, rfl⟩, fun _ _ _ _ => ⟨rfl, rfl⟩, rfl⟩
theorem XS.trans {b b' : Nat} {Z Z1 Z2 : mZ} {M M1 M2 : mM} (h : XS b Z M Z1 M1) (h' : XS b' Z1 M1 Z2 M2) (hb : b' = b ∨ Z.1 ≤ b') : XS b Z M Z2 M2 := by
  have l1 := h.1
  refine ⟨Nat.le_trans h.1 h'.1, fun r hr => ?_, fun r hr hn j => ?_, h'.2.2.2.trans h.2.2.2⟩
  · have q := h'.2.1 r (by omega)
    exact ⟨q.1.trans (h.2.1 r hr).1, q.2.trans (h.2.1 r hr).2⟩
  · have q := h'.2.2.1 r (by omega) (by omega) j
    have p := h.2.2.1 r hr hn j
    exact ⟨q.1.trans p.1, q.2.trans p.2⟩
theorem XS.tr {b : Nat} {Z Z1 Z2 : mZ} {M M1 M2 : mM} (h : XS b Z M Z1 M1) (h' : XS b Z1 M1 Z2 M2) : XS b Z M Z2 M2 := h.trans h' (Or.inl rfl)
theorem XS.int {b j : Nat} {Z : mZ} {M : mM} {v : Int32} : XS b Z M Z (sI M b j v) := ⟨Nat.le_refl _, fun _ _ => ⟨rfl, rfl⟩, fun r _ hn _ => ⟨rfl, sI_ne _ _ (fun e => hn e.1)⟩, rfl⟩
theorem okO_mk {Z : mZ} {b t : Nat} (h1 : 8 ≤ b) (h2 : b < Z.1) (h3 : Z.2.1 b = t) : okO Z b t = true := by
  unfold okO; rw [decide_eq_true h1, decide_eq_true h2, decide_eq_true h3]; rfl
theorem okO_xs {b a t : Nat} {Z Z' : mZ} {M M' : mM} (h : okO Z a t = true) (x : XS b Z M Z' M') : okO Z' a t = true := by
  obtain ⟨h1, h2, h3⟩ := okO_spec h
  exact okO_mk h1 (Nat.lt_of_lt_of_le h2 x.1) ((x.2.1 a h2).1.trans h3)
theorem ref_xs {b a j c : Nat} {Z Z' : mZ} {M M' : mM} (h : Z.2.2.2 a j = some c) (ha : a < Z.1) (x : XS b Z M Z' M') (hb : b ≠ a) : Z'.2.2.2 a j = some c := ((x.2.2.1 a ha (fun e => hb e.symm) j).1).trans h
theorem mem_xs {b a j : Nat} {v : Int32} {Z Z' : mZ} {M M' : mM} (h : M.1 a j = v) (ha : a < Z.1) (x : XS b Z M Z' M') (hb : b ≠ a) : M'.1 a j = v := ((x.2.2.1 a ha (fun e => hb e.symm) j).2).trans h
theorem arr_xs {b r n : Nat} {Z Z' : mZ} {M M' : mM} (h : ArrAt' Z r n) (x : XS b Z M Z' M') : ArrAt' Z' r n := by
  have o := okO_xs h.1 x
  exact ⟨o, okI_of o, ((x.2.1 r (okO_spec h.1).2.1).2).trans h.2.2⟩
theorem plan_xs {b p : Nat} {Z Z' : mZ} {M M' : mM} (h : PlanAt Z p) (x : XS b Z M Z' M') (hb : b ≠ p) : PlanAt Z' p := by
  obtain ⟨q1, q2, q3, q4, q5, q6, a1, a2, a3, a4, a5⟩ := h
  have hp := (okO_spec q1).2.1
  exact ⟨okO_xs q1 x, ref_xs q2 hp x hb, ref_xs q3 hp x hb, ref_xs q4 hp x hb, ref_xs q5 hp x hb, ref_xs q6 hp x hb, arr_xs a1 x, arr_xs a2 x, arr_xs a3 x, arr_xs a4 x, arr_xs a5 x⟩
theorem ways_xs {b a : Nat} {Z Z' : mZ} {M M' : mM} (h : WaysAt Z a) (x : XS b Z M Z' M') (hb : b ≠ a) : WaysAt Z' a := by
  obtain ⟨q1, q2, q3, q4, q5, a1, a2, a3, a4⟩ := h
  have hp := (okO_spec q1).2.1
  exact ⟨okO_xs q1 x, ref_xs q2 hp x hb, ref_xs q3 hp x hb, ref_xs q4 hp x hb, ref_xs q5 hp x hb, arr_xs a1 x, arr_xs a2 x, arr_xs a3 x, arr_xs a4 x⟩
theorem judge_xs {b J : Nat} {Z Z' : mZ} {M M' : mM} (h : JudgeAt Z J) (x : XS b Z M Z' M') (hb : b < J ∨ J + 1 < b) : JudgeAt Z' J := by
  obtain ⟨q1, q2, q3⟩ := h
  exact ⟨okO_xs q1 x, ref_xs q2 (okO_spec q1).2.1 x (by omega), plan_xs q3 x (by omega)⟩
theorem rel_xs {b p : Nat} {A : Row} {Z Z' : mZ} {M M' : mM} (h : RelP M p A) (x : XS b Z M Z' M') (hp : p + 6 ≤ Z.1) (hb : b < p ∨ p + 6 ≤ b) : RelP M' p A :=
  RelP.same (M' := (M'.1, M.2)) (S := fun a => ¬ (p ≤ a ∧ a ≤ p + 5)) h ⟨fun a ha j => (x.2.2.1 a (by omega) (by omega) j).2, rfl⟩ (fun a b1 b2 b3 => b3 ⟨b1, b2⟩)
theorem stat_xs {b : Nat} {Z Z' : mZ} {M M' : mM} (h : Stat Z M) (x : XS b Z M Z' M') (h8 : 8 ≤ Z.1) (hb : 8 ≤ b) : Stat Z' M' := by
  have l : ∀ r, r < 8 → Z'.2.2.1 r = Z.2.2.1 r := fun r hr => (x.2.1 r (by omega)).2
  have m : ∀ r, r < 8 → ∀ j, M'.1 r j = M.1 r j := fun r hr j => (x.2.2.1 r (by omega) (by omega) j).2
  unfold Stat
  rw [l 1 (by omega), l 2 (by omega), l 3 (by omega), l 4 (by omega), m 1 (by omega), m 1 (by omega), m 1 (by omega), m 2 (by omega), m 2 (by omega), m 2 (by omega), m 3 (by omega), m 3 (by omega), m 3 (by omega), m 4 (by omega), m 4 (by omega), m 4 (by omega), m 4 (by omega), m 4 (by omega)]
  exact h
/-! the steps -/
def NSt (Z : mZ) (M : mM) (t len : Nat) (Z' : mZ) (M' : mM) : Prop := Z'.1 = Z.1 + 1 ∧ (∀ r, Z'.2.1 r = if r = Z.1 then t else Z.2.1 r) ∧ (∀ r, Z'.2.2.1 r = if r = Z.1 then len else Z.2.2.1 r) ∧ (∀ r k, Z'.2.2.2 r k = if r = Z.1 then none else Z.2.2.2 r k) ∧ (∀ r k, M'.1 r k = if r = Z.1 then 0 else M.1 r k) ∧ M'.2.2.2 = M.2.2.2
def RSt (Z : mZ) (a j c : Nat) (Z' : mZ) : Prop := Z'.1 = Z.1 ∧ (∀ r, Z'.2.1 r = Z.2.1 r) ∧ (∀ r, Z'.2.2.1 r = Z.2.2.1 r) ∧ ∀ r k, Z'.2.2.2 r k = if r = a ∧ k = j then some c else Z.2.2.2 r k
theorem NSt.xs {b t len : Nat} {Z Z' : mZ} {M M' : mM} (s : NSt Z M t len Z' M') : XS b Z M Z' M' :=
  ⟨by rw [s.1]; omega, fun r hr => ⟨by rw [s.2.1, if_neg (by omega)], by rw [s.2.2.1, if_neg (by omega)]⟩, fun r hr _ j => ⟨by rw [s.2.2.2.1, if_neg (by omega)], by rw [s.2.2.2.2.1, if_neg (by omega)]⟩, s.2.2.2.2.2⟩
theorem RSt.xs {a j c : Nat} {Z Z' : mZ} {M : mM} (s : RSt Z a j c Z') : XS a Z M Z' M :=
  ⟨by rw [s.1]; omega, fun r _ => ⟨s.2.1 r, s.2.2.1 r⟩, fun r _ hn k => ⟨by rw [s.2.2.2, if_neg (fun e => hn e.1)], rfl⟩, rfl⟩
section NW
variable {Q : mZ → mM → Prop} {Z : mZ} {M : mM}
theorem n_new {t len : Nat} {K : mZ → mM → Option (Unit × (mZ × mM))} (h0 : M.2.2.2 = 0) (k : ∀ Z' M', NSt Z M t len Z' M' → RZ (K Z' M') Q) : RZ (ck (decide (M.2.2.2 = 0)) (nameZ (zNew Z t len) (mNew M (Z.1)) K)) Q := by
  rw [ck_t (decide_eq_true h0)]
  exact k _ _ ⟨rfl, fun _ => rfl, fun _ => rfl, fun _ _ => rfl, fun _ _ => rfl, rfl⟩
theorem n_ref {a t j c : Nat} {K : mZ → mM → Option (Unit × (mZ × mM))} (ho : okO Z a t = true) (k : ∀ Z', RSt Z a j c Z' → RZ (K Z' M) Q) : RZ (ck (okO Z a t) (nameZ (sR Z a j c) M K)) Q := by
  rw [ck_t ho]
  exact k _ ⟨rfl, fun _ => rfl, fun _ => rfl, fun _ _ => rfl⟩
theorem n_int {a t j : Nat} {v : Int32} {K : mZ → mM → Option (Unit × (mZ × mM))} (ho : okO Z a t = true) (k : ∀ M', M' = sI M a j v → RZ (K Z M') Q) : RZ (ck (okO Z a t) (nameZ Z (sI M a j v) K)) Q := by
  rw [ck_t ho]
  exact k _ rfl
theorem n_call {F : Option (Unit × (mZ × mM))} {Q1 : mZ → mM → Prop} {K : mZ → mM → Option (Unit × (mZ × mM))} (h : RZ F Q1) (k : ∀ Z1 M1, Q1 Z1 M1 → RZ (K Z1 M1) Q) : RZ (bnd2 F (fun _ M3 => nameZ M3.1 M3.2 K)) Q := by
  obtain ⟨Z1, M1, e, q⟩ := h
  rw [e, bnd2_some]
  exact k Z1 M1 q
theorem n_end (q : Q Z M) : RZ (some ((), (Z, M))) Q := ⟨Z, M, rfl, q⟩
theorem n_last {F : Option (Unit × mM)} {M' : mM} (e : F = some ((), M')) (q : Q Z M') : RZ (bnd2 F (fun _ M3 => some ((), (Z, M3)))) Q := by
  rw [e, bnd2_some]; exact ⟨Z, M', rfl, q⟩
/-- an array is made and laid into the field j of a -/
def AS (Z : mZ) (M : mM) (a j t len : Nat) (Z' : mZ) (M' : mM) : Prop := Z'.1 = Z.1 + 1 ∧ XS a Z M Z' M' ∧ (Z'.2.1 Z.1 = t ∧ Z'.2.2.1 Z.1 = len) ∧ Z'.2.2.2 a j = some Z.1 ∧ (∀ k, k ≠ j → Z'.2.2.2 a k = Z.2.2.2 a k) ∧ ∀ r k, M'.1 r k = if r = Z.1 then 0 else M.1 r k
theorem n_arr {a t j tn len : Nat} {K : mZ → mM → Option (Unit × (mZ × mM))} (h0 : M.2.2.2 = 0) (ho : okO Z a t = true) (k : ∀ Z' M', AS Z M a j tn len Z' M' → RZ (K Z' M') Q) :
    RZ (ck (decide (M.2.2.2 = 0)) (nameZ (zNew Z tn len) (mNew M (Z.1)) (fun Z2 M2 => ck (okO Z2 a t) (nameZ (sR Z2 a j (Z.1)) M2 K)))) Q := by
  have ha := okO_spec ho
  refine n_new h0 (fun Z1 M1 s1 => ?_)
  have x1 := s1.xs (b := a)
  refine n_ref (okO_xs ho x1) (fun Z2 s2 => ?_)
  refine k _ _ ⟨s2.1.trans s1.1, x1.tr s2.xs, ⟨?_, ?_⟩, ?_, fun q hq => ?_, s1.2.2.2.2.1⟩
  · rw [s2.2.1, s1.2.1, if_pos rfl]
  · rw [s2.2.2.1, s1.2.2.1, if_pos rfl]
  · rw [s2.2.2.2, if_pos ⟨rfl, rfl⟩]
  · rw [s2.2.2.2, if_neg (fun e => hq e.2), s1.2.2.2.1, if_neg (by omega)]
theorem AS.x {a j t len : Nat} {Z' : mZ} {M' : mM} (c : AS Z M a j t len Z' M') : XS a Z M Z' M' := c.2.1
theorem AS.f {a j t len : Nat} {Z' : mZ} {M' : mM} (c : AS Z M a j t len Z' M') (h : M.2.2.2 = 0) : M'.2.2.2 = 0 := c.2.1.2.2.2.trans h
theorem AS.r {a j t len : Nat} {Z' : mZ} {M' : mM} (c : AS Z M a j t len Z' M') {n : Nat} (h : Z.1 = n) : Z'.2.2.2 a j = some n := by rw [← h]; exact c.2.2.2.1
theorem AS.k {a j t len q c1 : Nat} {Z' : mZ} {M' : mM} (c : AS Z M a j t len Z' M') (h : q ≠ j) (e : Z.2.2.2 a q = some c1) : Z'.2.2.2 a q = some c1 := (c.2.2.2.2.1 q h).trans e
theorem AS.o {a j t len : Nat} {Z' : mZ} {M' : mM} (c : AS Z M a j t len Z' M') {n : Nat} (h : Z.1 = n) (h8 : 8 ≤ n) : okO Z' n t = true := okO_mk h8 (by rw [c.1]; omega) (by rw [← h]; exact c.2.2.1.1)
theorem AS.a {a j len : Nat} {Z' : mZ} {M' : mM} (c : AS Z M a j 20 len Z' M') {n : Nat} (h : Z.1 = n) (h8 : 8 ≤ n) : ArrAt' Z' n len := ⟨c.o h h8, okI_of (c.o h h8), by rw [← h]; exact c.2.2.1.2⟩
theorem AS.m {a j t len r k : Nat} {v : Int32} {Z' : mZ} {M' : mM} (c : AS Z M a j t len Z' M') (hr : r ≠ Z.1) (e : M.1 r k = v) : M'.1 r k = v := by rw [c.2.2.2.2.2, if_neg hr]; exact e
/-- an object is made, its constructor run, and it is laid into the field j of a -/
def OS (Z : mZ) (M : mM) (a j t : Nat) (Z' : mZ) (M' : mM) : Prop := Z.1 + 1 ≤ Z'.1 ∧ XS a Z M Z' M' ∧ okO Z' Z.1 t = true ∧ Z'.2.2.2 a j = some Z.1 ∧ (∀ k, k ≠ j → Z'.2.2.2 a k = Z.2.2.2 a k) ∧ ∀ r, r < Z.1 → ∀ k, M'.1 r k = M.1 r k
theorem n_obj {a t0 j t : Nat} {I : mZ → mM → Option (Unit × (mZ × mM))} {Q1 : mZ → mM → Prop} {K : mZ → mM → Option (Unit × (mZ × mM))} (h0 : M.2.2.2 = 0) (ho : okO Z a t0 = true)
    (hc : ∀ Z2 M2, NSt Z M t 0 Z2 M2 → RZ (I Z2 M2) (fun Z4 M4 => XS Z.1 Z2 M2 Z4 M4 ∧ Q1 Z4 M4)) (k : ∀ Z' M', OS Z M a j t Z' M' → (∃ Z4, XS a Z4 M' Z' M' ∧ Z'.1 = Z4.1 ∧ Q1 Z4 M') → RZ (K Z' M') Q) :
    RZ (ck (decide (M.2.2.2 = 0)) (nameZ (zNew Z t 0) (mNew M (Z.1)) (fun Z2 M2 => bnd2 (I Z2 M2) (fun _ M3 => nameZ M3.1 M3.2 (fun Z4 M4 => ck (okO Z4 a t0) (nameZ (sR Z4 a j (Z.1)) M4 K)))))) Q := by
  have ha := okO_spec ho
  refine n_new h0 (fun Z2 M2 s2 => ?_)
  refine n_call (hc Z2 M2 s2) (fun Z4 M4 q => ?_)
  have x2 := s2.xs (b := a)
  have x4 := x2.trans q.1 (Or.inr (Nat.le_refl _))
  have n2 := s2.1
  refine n_ref (okO_xs ho x4) (fun Z5 s5 => ?_)
  have x5 : XS a Z4 M4 Z5 M4 := s5.xs
  have l4 := q.1.1
  have o4 : okO Z2 Z.1 t = true := okO_mk (by omega) (by omega) (by rw [s2.2.1, if_pos rfl])
  refine k Z5 M4 ⟨?_, x4.tr x5, okO_xs (okO_xs o4 q.1) x5, ?_, fun i hi => ?_, fun r hr i => ?_⟩ ⟨Z4, x5, s5.1, q.2⟩
  · rw [s5.1]; omega
  · rw [s5.2.2.2, if_pos ⟨rfl, rfl⟩]
  · rw [s5.2.2.2, if_neg (fun e => hi e.2)]
    rw [(q.1.2.2.1 a (by omega) (by omega) i).1, s2.2.2.2.1, if_neg (by omega)]
  · rw [(q.1.2.2.1 r (by omega) (by omega) i).2, s2.2.2.2.2.1, if_neg (by omega)]
theorem OS.x {a j t : Nat} {Z' : mZ} {M' : mM} (c : OS Z M a j t Z' M') : XS a Z M Z' M' := c.2.1
theorem OS.f {a j t : Nat} {Z' : mZ} {M' : mM} (c : OS Z M a j t Z' M') (h : M.2.2.2 = 0) : M'.2.2.2 = 0 := c.2.1.2.2.2.trans h
theorem OS.r {a j t : Nat} {Z' : mZ} {M' : mM} (c : OS Z M a j t Z' M') {n : Nat} (h : Z.1 = n) : Z'.2.2.2 a j = some n := by rw [← h]; exact c.2.2.2.1
theorem OS.k {a j t q c1 : Nat} {Z' : mZ} {M' : mM} (c : OS Z M a j t Z' M') (h : q ≠ j) (e : Z.2.2.2 a q = some c1) : Z'.2.2.2 a q = some c1 := (c.2.2.2.2.1 q h).trans e
theorem OS.o {a j t : Nat} {Z' : mZ} {M' : mM} (c : OS Z M a j t Z' M') {n : Nat} (h : Z.1 = n) : okO Z' n t = true := by rw [← h]; exact c.2.2.1
theorem OS.m {a j t r k : Nat} {v : Int32} {Z' : mZ} {M' : mM} (c : OS Z M a j t Z' M') (hr : r < Z.1) (e : M.1 r k = v) : M'.1 r k = v := (c.2.2.2.2.2 r hr k).trans e
theorem NSt.o {t len n : Nat} {Z' : mZ} {M' : mM} (s : NSt Z M t len Z' M') (h : Z.1 = n) (h8 : 8 ≤ n) : okO Z' n t = true := okO_mk h8 (by rw [s.1]; omega) (by rw [s.2.1, if_pos h.symm])
end NW
section NM
variable {N : Nat} {Z : mZ} {M : mM} {b : Nat}
theorem n_plan (hN : 5000 ≤ N) (hs : Stat Z M) (h8 : 8 ≤ b) (h1 : Z.1 = b + 1) (o0 : okO Z b 4 = true) (hf : M.2.2.2 = 0) : RZ (fX4_init N Z b M) (fun Z' M' => XS b Z M Z' M' ∧ Z'.1 = b + 6 ∧ PlanAt Z' b ∧ RelP M' b (begR 4)) := by
  unfold fX4_init
  refine n_int o0 (fun M1 e1 => ?_)
  refine n_int o0 (fun M2 e2 => ?_)
  have x2 : XS b Z M Z M2 := by rw [e2, e1]; exact XS.int.tr XS.int
  have f2 : M2.2.2.2 = 0 := x2.2.2.2.trans hf
  refine n_arr f2 o0 (fun Z3 M3 c3 => ?_)
  have n3 : Z3.1 = b + 2 := by rw [c3.1]; omega
  refine n_arr (c3.f f2) (okO_xs o0 c3.x) (fun Z4 M4 c4 => ?_)
  have n4 : Z4.1 = b + 3 := by rw [c4.1]; omega
  have y4 := c3.x.tr c4.x
  refine n_arr (c4.f (c3.f f2)) (okO_xs o0 y4) (fun Z5 M5 c5 => ?_)
  have n5 : Z5.1 = b + 4 := by rw [c5.1]; omega
  have y5 := y4.tr c5.x
  refine n_arr (c5.f (c4.f (c3.f f2))) (okO_xs o0 y5) (fun Z6 M6 c6 => ?_)
  have n6 : Z6.1 = b + 5 := by rw [c6.1]; omega
  have y6 := y5.tr c6.x
  refine n_arr (c6.f (c5.f (c4.f (c3.f f2)))) (okO_xs o0 y6) (fun Z7 M7 c7 => ?_)
  have n7 : Z7.1 = b + 6 := by rw [c7.1]; omega
  have y7 := y6.tr c7.x
  have o7 := okO_xs o0 y7
  have z6 := c7.x
  have z5 := c6.x.tr z6
  have z4 := c5.x.tr z5
  have z3 := c4.x.tr z4
  have P : PlanAt Z7 b := ⟨o7, c7.k (by decide) (c6.k (by decide) (c5.k (by decide) (c4.k (by decide) (c3.r h1)))), c7.k (by decide) (c6.k (by decide) (c5.k (by decide) (c4.r n3))), c7.k (by decide) (c6.k (by decide) (c5.r n4)), c7.k (by decide) (c6.r n5), c7.r n6,
    arr_xs (c3.a h1 (by omega)) z3, arr_xs (c4.a n3 (by omega)) z4, arr_xs (c5.a n4 (by omega)) z5, arr_xs (c6.a n5 (by omega)) z6, c7.a n6 (by omega)⟩
  have y := x2.tr y7
  have S7 : Stat Z7 M7 := stat_xs hs y (by omega) h8
  rw [ck_t o7]
  refine n_last (M' := begM M7 b 4) (k_begin (N := N) hN P S7 4) ⟨?_, n7, P, begM_rel 4⟩
  have sb := begM_same (M := M7) (b := b) (n := 4)
  refine ⟨y.1, y.2.1, fun r hr hn j => ⟨(y.2.2.1 r hr hn j).1, ?_⟩, ?_⟩
  · rw [sb.1 r (fun e => by have := e.1; have := e.2; omega)]; exact (y.2.2.1 r hr hn j).2
  · rw [show (begM M7 b 4).2.2.2 = M7.2.2.2 from congrArg (fun t => t.2.2) sb.2]; exact y.2.2.2
theorem n_ways (h8 : 8 ≤ b) (h1 : Z.1 = b + 1) (o0 : okO Z b 6 = true) (hf : M.2.2.2 = 0) : RZ (fX6_init N Z b M) (fun Z' M' => XS b Z M Z' M' ∧ Z'.1 = b + 5 ∧ WaysAt Z' b) := by
  unfold fX6_init
  refine n_arr hf o0 (fun Z3 M3 c3 => ?_)
  have n3 : Z3.1 = b + 2 := by rw [c3.1]; omega
  refine n_arr (c3.f hf) (okO_xs o0 c3.x) (fun Z4 M4 c4 => ?_)
  have n4 : Z4.1 = b + 3 := by rw [c4.1]; omega
  have y4 := c3.x.tr c4.x
  refine n_arr (c4.f (c3.f hf)) (okO_xs o0 y4) (fun Z5 M5 c5 => ?_)
  have n5 : Z5.1 = b + 4 := by rw [c5.1]; omega
  have y5 := y4.tr c5.x
  refine n_arr (c5.f (c4.f (c3.f hf))) (okO_xs o0 y5) (fun Z6 M6 c6 => ?_)
  have n6 : Z6.1 = b + 5 := by rw [c6.1]; omega
  have y6 := y5.tr c6.x
  have z5 := c6.x
  have z4 := c5.x.tr z5
  have z3 := c4.x.tr z4
  exact n_end ⟨y6, n6, okO_xs o0 y6, c6.k (by decide) (c5.k (by decide) (c4.k (by decide) (c3.r h1))), c6.k (by decide) (c5.k (by decide) (c4.r n3)), c6.k (by decide) (c5.r n4), c6.r n5,
    arr_xs (c3.a h1 (by omega)) z3, arr_xs (c4.a n3 (by omega)) z4, arr_xs (c5.a n4 (by omega)) z5, c6.a n5 (by omega)⟩
theorem n_judge (hN : 5000 ≤ N) (hs : Stat Z M) (h8 : 8 ≤ b) (h1 : Z.1 = b + 1) (o0 : okO Z b 3 = true) (hf : M.2.2.2 = 0) : RZ (fX3_init N Z b M) (fun Z' M' => XS b Z M Z' M' ∧ Z'.1 = b + 7 ∧ JudgeAt Z' b) := by
  unfold fX3_init
  refine n_int o0 (fun M1 e1 => ?_)
  refine n_int o0 (fun M2 e2 => ?_)
  have x2 : XS b Z M Z M2 := by rw [e2, e1]; exact XS.int.tr XS.int
  have f2 : M2.2.2.2 = 0 := x2.2.2.2.trans hf
  refine n_obj f2 o0 (fun Z2 M2' s2 => n_plan hN (stat_xs (stat_xs hs x2 (by omega) h8) (s2.xs (b := b)) (by omega) h8) (by omega) (by rw [s2.1]) (s2.o rfl (by omega)) (s2.2.2.2.2.2.trans f2)) (fun Z3 M3 c3 q => ?_)
  obtain ⟨Z4, x4, n4, q1, q2, q3⟩ := q
  rw [h1] at q1 q2
  exact n_end ⟨x2.tr c3.x, by rw [n4, q1], okO_xs o0 c3.x, c3.r h1, plan_xs q2 x4 (by omega)⟩
theorem n_work (o0 : okO Z b 7 = true) : RZ (fX7_init N Z b M) (fun Z' M' => XS b Z M Z' M' ∧ Z' = Z) := by
  unfold fX7_init
  refine n_int o0 (fun M1 e1 => ?_)
  refine n_int o0 (fun M2 e2 => ?_)
  refine n_int o0 (fun M3 e3 => ?_)
  refine n_int o0 (fun M4 e4 => ?_)
  refine n_int o0 (fun M5 e5 => ?_)
  refine n_end ⟨?_, rfl⟩
  rw [e5, e4, e3, e2, e1]
  exact (((XS.int.tr XS.int).tr XS.int).tr XS.int).tr XS.int
theorem n_rep (h8 : 8 ≤ b) (h1 : Z.1 = b + 1) (o0 : okO Z b 5 = true) (hf : M.2.2.2 = 0) : RZ (fX5_init N Z b M) (fun Z' M' => XS b Z M Z' M' ∧ Z'.1 = b + 3 ∧ (okO Z' b 5 = true ∧ Z'.2.2.2 b 1 = some (b + 1) ∧ Z'.2.2.2 b 2 = some (b + 2) ∧ ArrAt' Z' (b + 1) 3 ∧ ArrAt' Z' (b + 2) 3) ∧ M'.1 b 0 = 0) := by
  unfold fX5_init
  refine n_int o0 (fun M2 e2 => ?_)
  have x2 : XS b Z M Z M2 := by rw [e2]; exact XS.int
  have f2 : M2.2.2.2 = 0 := x2.2.2.2.trans hf
  refine n_arr f2 o0 (fun Z3 M3 c3 => ?_)
  have n3 : Z3.1 = b + 2 := by rw [c3.1]; omega
  refine n_arr (c3.f f2) (okO_xs o0 c3.x) (fun Z4 M4 c4 => ?_)
  have n4 : Z4.1 = b + 3 := by rw [c4.1]; omega
  have y4 := c3.x.tr c4.x
  exact n_end ⟨x2.tr y4, n4, ⟨okO_xs o0 y4, c4.k (by decide) (c3.r h1), c4.r n3, arr_xs (c3.a h1 (by omega)) c4.x, c4.a n3 (by omega)⟩, c4.m (by omega) (c3.m (by omega) (by rw [e2, sI_same]))⟩
theorem n_text (h8 : 8 ≤ b) (h1 : Z.1 = b + 1) (o0 : okO Z b 0 = true) (hf : M.2.2.2 = 0) : RZ (fX0_init N Z b M) (fun Z' M' => XS b Z M Z' M' ∧ Z'.1 = b + 2 ∧ (okO Z' b 0 = true ∧ Z'.2.2.2 b 2 = some (b + 1) ∧ okO Z' (b + 1) 21 = true ∧ Z'.2.2.1 (b + 1) = 80) ∧ M'.1 b 0 = 0 ∧ M'.1 b 1 = 0) := by
  unfold fX0_init
  refine n_int o0 (fun M1 e1 => ?_)
  refine n_int o0 (fun M2 e2 => ?_)
  have x2 : XS b Z M Z M2 := by rw [e2, e1]; exact XS.int.tr XS.int
  have f2 : M2.2.2.2 = 0 := x2.2.2.2.trans hf
  refine n_arr f2 o0 (fun Z3 M3 c3 => ?_)
  have n3 : Z3.1 = b + 2 := by rw [c3.1]; omega
  refine n_end ⟨x2.tr c3.x, n3, ⟨okO_xs o0 c3.x, c3.r h1, c3.o h1 (by omega), ?_⟩, c3.m (by omega) ?_, c3.m (by omega) ?_⟩
  · have := c3.2.2.1.2; rw [h1] at this; exact this
  · rw [e2, sI_ne _ _ (by omega), e1, sI_same]
  · rw [e2, sI_same]
/-- the dismantler, of 21 cells -/
def DisAt (Z : mZ) (b : Nat) : Prop := okO Z b 1 = true ∧ Z.2.2.2 b 3 = some (b + 1) ∧ Z.2.2.2 b 4 = some (b + 2) ∧ Z.2.2.2 b 5 = some (b + 8) ∧ Z.2.2.2 b 6 = some (b + 13) ∧ Z.2.2.2 b 7 = some (b + 20) ∧ ArrAt' Z (b + 1) 900 ∧ PlanAt Z (b + 2) ∧ WaysAt Z (b + 8) ∧ JudgeAt Z (b + 13) ∧ okO Z (b + 20) 7 = true
theorem n_dism (hN : 5000 ≤ N) (hs : Stat Z M) (h8 : 8 ≤ b) (h1 : Z.1 = b + 1) (o0 : okO Z b 1 = true) (hf : M.2.2.2 = 0) : RZ (fX1_init N Z b M) (fun Z' M' => XS b Z M Z' M' ∧ Z'.1 = b + 21 ∧ DisAt Z' b ∧ M'.1 b 2 = 0) := by
  unfold fX1_init
  refine n_int o0 (fun M1 e1 => ?_)
  refine n_int o0 (fun M2 e2 => ?_)
  refine n_int o0 (fun M3 e3 => ?_)
  have x3 : XS b Z M Z M3 := by rw [e3, e2, e1]; exact (XS.int.tr XS.int).tr XS.int
  have m3 : M3.1 b 2 = 0 := by rw [e3, sI_same]
  have f3 : M3.2.2.2 = 0 := x3.2.2.2.trans hf
  have S3 := stat_xs hs x3 (by omega) h8
  refine n_arr f3 o0 (fun Z4 M4 c4 => ?_)
  have n4 : Z4.1 = b + 2 := by rw [c4.1]; omega
  have o4 := okO_xs o0 c4.x
  have f4 := c4.f f3
  have S4 := stat_xs S3 c4.x (by omega) h8
  refine n_obj f4 o4 (fun Z2 M2' s2 => n_plan hN (stat_xs S4 (s2.xs (b := b)) (by omega) h8) (by omega) (by rw [s2.1]) (s2.o rfl (by omega)) (s2.2.2.2.2.2.trans f4)) (fun Z5 M5 c5 q5 => ?_)
  obtain ⟨W5, w5, k5, q51, q52, -⟩ := q5
  have n5 : Z5.1 = b + 8 := by rw [k5, q51]; omega
  have o5 := okO_xs o4 c5.x
  have f5 := c5.f f4
  have S5 := stat_xs S4 c5.x (by omega) h8
  rw [n4] at q52
  have p5 : PlanAt Z5 (b + 2) := plan_xs q52 w5 (by omega)
  refine n_obj f5 o5 (fun Z2 M2' s2 => n_ways (by omega) (by rw [s2.1]) (s2.o rfl (by omega)) (s2.2.2.2.2.2.trans f5)) (fun Z6 M6 c6 q6 => ?_)
  obtain ⟨W6, w6, k6, q61, q62⟩ := q6
  have n6 : Z6.1 = b + 13 := by rw [k6, q61]; omega
  have o6 := okO_xs o5 c6.x
  have f6 := c6.f f5
  have S6 := stat_xs S5 c6.x (by omega) h8
  rw [n5] at q62
  have p6 : WaysAt Z6 (b + 8) := ways_xs q62 w6 (by omega)
  refine n_obj f6 o6 (fun Z2 M2' s2 => n_judge hN (stat_xs S6 (s2.xs (b := b)) (by omega) h8) (by omega) (by rw [s2.1]) (s2.o rfl (by omega)) (s2.2.2.2.2.2.trans f6)) (fun Z7 M7 c7 q7 => ?_)
  obtain ⟨W7, w7, k7, q71, q72⟩ := q7
  have n7 : Z7.1 = b + 20 := by rw [k7, q71]; omega
  have o7 := okO_xs o6 c7.x
  have f7 := c7.f f6
  rw [n6] at q72
  have p7 : JudgeAt Z7 (b + 13) := judge_xs q72 w7 (by omega)
  refine n_obj f7 o7 (Q1 := fun Z4 _ => Z4.1 = Z7.1 + 1) (fun Z2 M2' s2 => ?_) (fun Z8 M8 c8 q8 => ?_)
  · obtain ⟨Z', M', u1, u2, u3⟩ := n_work (N := N) (Z := Z2) (M := M2') (b := Z7.1) (s2.o rfl (by omega))
    exact ⟨Z', M', u1, u2, by rw [u3, s2.1]⟩
  obtain ⟨W8, w8, k8, q81⟩ := q8
  have n8 : Z8.1 = b + 21 := by rw [k8, q81]; omega
  have z7 := c8.x
  have z6 := c7.x.tr z7
  have z5 := c6.x.tr z6
  have z4 := c5.x.tr z5
  refine n_end ⟨x3.tr (c4.x.tr z4), n8, ⟨okO_xs o7 z7, c8.k (by decide) (c7.k (by decide) (c6.k (by decide) (c5.k (by decide) (c4.r h1)))), c8.k (by decide) (c7.k (by decide) (c6.k (by decide) (c5.r n4))), c8.k (by decide) (c7.k (by decide) (c6.r n5)), c8.k (by decide) (c7.r n6), c8.r n7,
    arr_xs (c4.a h1 (by omega)) z4, plan_xs p5 z5 (by omega), ways_xs p6 z6 (by omega), judge_xs p7 z7 (by omega), c8.o n7⟩, ?_⟩
  exact c8.m (by omega) (c7.m (by omega) (c6.m (by omega) (c5.m (by omega) (c4.m (by omega) m3))))
end NM
