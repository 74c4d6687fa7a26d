/-! ===== LAYER 3: the history, the class and the reference are made ===== -/
section NH
variable {N : Nat}
/-- the history at 27 with i plans -/
def HIn (i : Nat) (Z0 : mZ) (M0 : mM) (Z : mZ) (M : mM) : Prop := XS 27 Z0 M0 Z M ∧ Z.1 = 29 + 6 * i ∧ okO Z 27 2 = true ∧ Z.2.2.2 27 2 = some 28 ∧ okO Z 28 24 = true ∧ Z.2.2.1 28 = 8 ∧ (∀ q, q < i → Z.2.2.2 28 q = some (29 + 6 * q) ∧ PlanAt Z (29 + 6 * q)) ∧ Stat Z M ∧ M.2.2.2 = 0 ∧ M.1 27 0 = 0 ∧ M.1 27 1 = 0
theorem n_put {Q : mZ → mM → Prop} {Z : mZ} {M : mM} {a j c : Nat} {K : mZ → mM → Option (Unit × (mZ × mM))} (k : ∀ Z', RSt Z a j c Z' → RZ (K Z' M) Q) : RZ (nameZ (sR Z a j c) M K) Q := k _ ⟨rfl, fun _ => rfl, fun _ => rfl, fun _ _ => rfl⟩
theorem n_hist1 (hN : 5000 ≤ N) {Q : mZ → mM → Prop} {Z0 : mZ} {M0 : mM} {Z : mZ} {M : mM} {i : Nat} {ii : Int32} {K : mZ → mM → Option (Unit × (mZ × mM))} (h0 : Z0.1 = 28) (h : HIn i Z0 M0 Z M) (hi : i < 8) (hii : ii = nI i) (k : ∀ Z' M', HIn (i + 1) Z0 M0 Z' M' → RZ (K Z' M') Q) :
    RZ (ck (okO Z 27 2) (bnd1 (Z.2.2.2 27 2) (fun c => ck (okO Z c 24) (ck (decide (Int32.ofNat (Z.2.2.1 c) = (8 : Int32))) (ck (decide (M.2.2.2 = 0)) (nameZ (zNew Z 4 0) (mNew M (Z.1)) (fun Z14 M14 => bnd2 (fX4_init N Z14 (Z.1) M14) (fun _ M15 => nameZ M15.1 M15.2 (fun Z16 M16 => ck (okO Z16 c 24) (ck (inB ii (Z16.2.2.1 c)) (ck (okO Z16 (Z.1) 4) (nameZ (sR Z16 c (ii).toNatClampNeg (Z.1)) M16 K)))))))))))) Q := by
  obtain ⟨x0, n0, o27, r27, o28, l28, hp, hs, hf, m0, m1⟩ := h
  rw [ck_t o27, r27, bnd1_some, ck_t o28, ck_t (by rw [l28]; decide)]
  refine n_new hf (fun Z2 M2 s2 => ?_)
  have x2 : XS 28 Z M Z2 M2 := s2.xs
  refine n_call (n_plan (N := N) (b := Z.1) hN (stat_xs hs x2 (by omega) (by omega)) (by omega) (by rw [s2.1]) (s2.o rfl (by omega)) (s2.2.2.2.2.2.trans hf)) (fun Z4 M4 q => ?_)
  obtain ⟨q1, q2, q3, -⟩ := q
  have x4 : XS 28 Z M Z4 M4 := x2.trans q1 (Or.inr (Nat.le_refl _))
  have l4 : Z4.2.2.1 28 = 8 := ((x4.2.1 28 (by omega)).2).trans l28
  rw [ck_t (okO_xs o28 x4), ck_t (by rw [hii, l4, i_inB (by omega)]; exact decide_eq_true hi)]
  have hcl : (ii).toNatClampNeg = i := by rw [hii]; exact i_cl (by omega)
  rw [hcl, ck_t q3.1]
  refine n_put (fun Z5 s5 => ?_)
  have x5 : XS 28 Z4 M4 Z5 M4 := s5.xs
  have y5 : XS 28 Z M Z5 M4 := x4.tr x5
  rw [n0] at q3
  refine k Z5 M4 ⟨x0.trans y5 (Or.inr (by omega)), by rw [s5.1, q2, n0]; omega, okO_xs o27 y5, ref_xs r27 (by omega) y5 (by omega), okO_xs o28 y5, ((y5.2.1 28 (by omega)).2).trans l28, fun p hp' => ?_, stat_xs hs y5 (by omega) (by omega), y5.2.2.2.trans hf, mem_xs m0 (by omega) y5 (by omega), mem_xs m1 (by omega) y5 (by omega)⟩
  by_cases e : p = i
  · rw [e]
    exact ⟨by rw [s5.2.2.2, if_pos ⟨rfl, rfl⟩, n0], plan_xs q3 x5 (by omega)⟩
  · obtain ⟨u1, u2⟩ := hp p (by omega)
    refine ⟨?_, plan_xs u2 y5 (by omega)⟩
    rw [s5.2.2.2, if_neg (fun z => e z.2), (q1.2.2.1 28 (by rw [s2.1]; omega) (by omega) p).1, s2.2.2.2.1, if_neg (by omega)]
    exact u1
theorem n_hist (hN : 5000 ≤ N) {Z : mZ} {M : mM} (hs : Stat Z M) (h1 : Z.1 = 28) (o0 : okO Z 27 2 = true) (hf : M.2.2.2 = 0) : RZ (fX2_init N Z 27 M) (fun Z' M' => XS 27 Z M Z' M' ∧ Z'.1 = 77 ∧ HistAt Z' ∧ M'.1 27 0 = 0 ∧ M'.1 27 1 = 0) := by
  unfold fX2_init
  refine n_int o0 (fun M1 e1 => ?_)
  refine n_int o0 (fun M2 e2 => ?_)
  have x2 : XS 27 Z M Z M2 := by rw [e2, e1]; exact XS.int.tr XS.int
  have f2 : M2.2.2.2 = 0 := x2.2.2.2.trans hf
  refine n_arr f2 o0 (fun Z3 M3 c3 => ?_)
  have n3 : Z3.1 = 29 := by rw [c3.1, h1]
  have I0 : HIn 0 Z M Z3 M3 := ⟨x2.tr c3.x, n3, okO_xs o0 c3.x, c3.r h1, c3.o h1 (by omega), by have := c3.2.2.1.2; rw [h1] at this; exact this, fun q hq => absurd hq (Nat.not_lt_zero q), stat_xs (stat_xs hs x2 (by omega) (by omega)) c3.x (by omega) (by omega), c3.f f2, c3.m (by omega) (by rw [e2, sI_ne _ _ (by omega), e1, sI_same]), c3.m (by omega) (by rw [e2, sI_same])⟩
  refine n_hist1 hN h1 I0 (by omega) (show (0 : Int32) = nI 0 from rfl) (fun Z4 M4 I1 => ?_)
  refine n_hist1 hN h1 I1 (by omega) (show (1 : Int32) = nI 1 from rfl) (fun Z5 M5 I2 => ?_)
  refine n_hist1 hN h1 I2 (by omega) (show (2 : Int32) = nI 2 from rfl) (fun Z6 M6 I3 => ?_)
  refine n_hist1 hN h1 I3 (by omega) (show (3 : Int32) = nI 3 from rfl) (fun Z7 M7 I4 => ?_)
  refine n_hist1 hN h1 I4 (by omega) (show (4 : Int32) = nI 4 from rfl) (fun Z8 M8 I5 => ?_)
  refine n_hist1 hN h1 I5 (by omega) (show (5 : Int32) = nI 5 from rfl) (fun Z9 M9 I6 => ?_)
  refine n_hist1 hN h1 I6 (by omega) (show (6 : Int32) = nI 6 from rfl) (fun Z10 M10 I7 => ?_)
  refine n_hist1 hN h1 I7 (by omega) (show (7 : Int32) = nI 7 from rfl) (fun Z11 M11 I8 => ?_)
  obtain ⟨x, n, o27, r27, o28, l28, hp, -, -, m0, m1⟩ := I8
  rw [ck_t o27, r27, bnd1_some, ck_t o28, ck_t (by rw [l28]; decide)]
  exact n_end ⟨x, n, ⟨o27, r27, o28, l28, fun i hi => hp i hi⟩, m0, m1⟩
/-- the class is made -/
def Mem0 (M : mM) : Prop := RelP M 9 (begR 4) ∧ M.1 8 3 = 0 ∧ M.1 27 0 = 0 ∧ M.1 27 1 = 0 ∧ M.1 90 0 = 0 ∧ M.1 93 2 = 0 ∧ M.1 114 0 = 0 ∧ M.1 114 1 = 0
theorem n_cls (hN : 5000 ≤ N) {Z : mZ} {M : mM} (hs : Stat Z M) (h1 : Z.1 = 9) (o0 : okO Z 8 8 = true) (hf : M.2.2.2 = 0) : RZ (fX8_init N Z 8 M) (fun Z' M' => XS 8 Z M Z' M' ∧ Z'.1 = 116 ∧ ClsAt Z' ∧ Mem0 M') := by
  unfold fX8_init
  refine n_obj hf o0 (fun Z2 M2 s2 => n_plan hN (stat_xs hs (s2.xs (b := 8)) (by omega) (by omega)) (by omega) (by rw [s2.1]) (s2.o rfl (by omega)) (s2.2.2.2.2.2.trans hf)) (fun Z1 M1 c1 q => ?_)
  obtain ⟨W, w, k, q1, q2, q3⟩ := q
  have n1 : Z1.1 = 15 := by rw [k, q1, h1]
  have o1 := okO_xs o0 c1.x
  have f1 := c1.f hf
  have S1 := stat_xs hs c1.x (by omega) (by omega)
  rw [h1] at q2 q3
  have p1 : PlanAt Z1 9 := plan_xs q2 w (by omega)
  have R1 : RelP M1 9 (begR 4) := q3
  clear q1 q2 q3 w k
  refine n_obj f1 o1 (fun Z2 M2 s2 => n_plan hN (stat_xs S1 (s2.xs (b := 8)) (by omega) (by omega)) (by omega) (by rw [s2.1]) (s2.o rfl (by omega)) (s2.2.2.2.2.2.trans f1)) (fun Z2 M2 c2 q => ?_)
  obtain ⟨W, w, k, q1, q2, -⟩ := q
  have n2 : Z2.1 = 21 := by rw [k, q1, n1]
  have o2 := okO_xs o1 c2.x
  have f2 := c2.f f1
  have S2 := stat_xs S1 c2.x (by omega) (by omega)
  rw [n1] at q2
  have p2 : PlanAt Z2 15 := plan_xs q2 w (by omega)
  clear q1 q2 w k
  refine n_obj f2 o2 (fun Z2 M2 s2 => n_plan hN (stat_xs S2 (s2.xs (b := 8)) (by omega) (by omega)) (by omega) (by rw [s2.1]) (s2.o rfl (by omega)) (s2.2.2.2.2.2.trans f2)) (fun Z3 M3 c3 q => ?_)
  obtain ⟨W, w, k, q1, q2, -⟩ := q
  have n3 : Z3.1 = 27 := by rw [k, q1, n2]
  have o3 := okO_xs o2 c3.x
  have f3 := c3.f f2
  have S3 := stat_xs S2 c3.x (by omega) (by omega)
  rw [n2] at q2
  have p3 : PlanAt Z3 21 := plan_xs q2 w (by omega)
  clear q1 q2 w k
  refine n_int o3 (fun M4 e4 => ?_)
  have x4 : XS 8 Z3 M3 Z3 M4 := by rw [e4]; exact XS.int
  have f4 : M4.2.2.2 = 0 := x4.2.2.2.trans f3
  have S4 := stat_xs S3 x4 (by omega) (by omega)
  have m4 : M4.1 8 3 = 0 := by rw [e4, sI_same]
  refine n_obj f4 o3 (Q1 := fun Z' M' => Z'.1 = 77 ∧ HistAt Z' ∧ M'.1 27 0 = 0 ∧ M'.1 27 1 = 0) (fun Z2 M2 s2 => ?_) (fun Z5 M5 c5 q => ?_)
  · rw [n3]
    exact n_hist hN (stat_xs S4 (s2.xs (b := 8)) (by omega) (by omega)) (by rw [s2.1, n3]) (s2.o n3 (by omega)) (s2.2.2.2.2.2.trans f4)
  obtain ⟨W, w, k, q1, q2, q3, q4⟩ := q
  have n5 : Z5.1 = 77 := by rw [k, q1]
  have o5 := okO_xs o3 c5.x
  have f5 := c5.f f4
  have S5 := stat_xs S4 c5.x (by omega) (by omega)
  have p5 : HistAt Z5 := ⟨okO_xs q2.1 w, ref_xs q2.2.1 (by omega) w (by omega), okO_xs q2.2.2.1 w, ((w.2.1 28 (by omega)).2).trans q2.2.2.2.1, fun i hi => ⟨ref_xs (q2.2.2.2.2 i hi).1 (by omega) w (by omega), plan_xs (q2.2.2.2.2 i hi).2 w (by omega)⟩⟩
  clear q1 q2 w k
  refine n_obj f5 o5 (fun Z2 M2 s2 => n_ways (by omega) (by rw [s2.1]) (s2.o rfl (by omega)) (s2.2.2.2.2.2.trans f5)) (fun Z6 M6 c6 q => ?_)
  obtain ⟨W, w, k, q1, q2⟩ := q
  have n6 : Z6.1 = 82 := by rw [k, q1, n5]
  have o6 := okO_xs o5 c6.x
  have f6 := c6.f f5
  have S6 := stat_xs S5 c6.x (by omega) (by omega)
  rw [n5] at q2
  have p6 : WaysAt Z6 77 := ways_xs q2 w (by omega)
  clear q1 q2 w k
  refine n_obj f6 o6 (fun Z2 M2 s2 => n_judge hN (stat_xs S6 (s2.xs (b := 8)) (by omega) (by omega)) (by omega) (by rw [s2.1]) (s2.o rfl (by omega)) (s2.2.2.2.2.2.trans f6)) (fun Z7 M7 c7 q => ?_)
  obtain ⟨W, w, k, q1, q2⟩ := q
  have n7 : Z7.1 = 89 := by rw [k, q1, n6]
  have o7 := okO_xs o6 c7.x
  have f7 := c7.f f6
  have S7 := stat_xs S6 c7.x (by omega) (by omega)
  rw [n6] at q2
  have p7 : JudgeAt Z7 82 := judge_xs q2 w (by omega)
  clear q1 q2 w k
  refine n_obj f7 o7 (Q1 := fun Z4 _ => Z4.1 = 90) (fun Z2 M2 s2 => ?_) (fun Z8 M8 c8 q => ?_)
  · obtain ⟨Z', M', u1, u2, u3⟩ := n_work (N := N) (Z := Z2) (M := M2) (b := Z7.1) (s2.o rfl (by omega))
    exact ⟨Z', M', u1, u2, by rw [u3, s2.1, n7]⟩
  obtain ⟨W, w, k, q1⟩ := q
  have n8 : Z8.1 = 90 := by rw [k, q1]
  have o8 := okO_xs o7 c8.x
  have f8 := c8.f f7
  have S8 := stat_xs S7 c8.x (by omega) (by omega)
  clear q1 w k
  refine n_obj f8 o8 (fun Z2 M2 s2 => n_rep (by omega) (by rw [s2.1]) (s2.o rfl (by omega)) (s2.2.2.2.2.2.trans f8)) (fun Z9 M9 c9 q => ?_)
  obtain ⟨W, w, k, q1, q2, m9⟩ := q
  have n9 : Z9.1 = 93 := by rw [k, q1, n8]
  have o9 := okO_xs o8 c9.x
  have f9 := c9.f f8
  have S9 := stat_xs S8 c9.x (by omega) (by omega)
  rw [n8] at q2 m9
  have n9' : W.1 = 93 := by rw [q1, n8]
  have p9 : RepAt Z9 := ⟨okO_xs q2.1 w, ref_xs q2.2.1 (by omega) w (by omega), ref_xs q2.2.2.1 (by omega) w (by omega), arr_xs q2.2.2.2.1 w, arr_xs q2.2.2.2.2 w⟩
  clear q1 q2 w k n9'
  refine n_obj f9 o9 (fun Z2 M2 s2 => n_dism hN (stat_xs S9 (s2.xs (b := 8)) (by omega) (by omega)) (by omega) (by rw [s2.1]) (s2.o rfl (by omega)) (s2.2.2.2.2.2.trans f9)) (fun Z10 M10 c10 q => ?_)
  obtain ⟨W, w, k, q1, q2, m10⟩ := q
  have n10 : Z10.1 = 114 := by rw [k, q1, n9]
  have o10 := okO_xs o9 c10.x
  have f10 := c10.f f9
  have n10' : W.1 = 114 := by rw [q1, n9]
  rw [n9] at q2 m10
  have p10 : DisAt Z10 93 := ⟨okO_xs q2.1 w, ref_xs q2.2.1 (by omega) w (by omega), ref_xs q2.2.2.1 (by omega) w (by omega), ref_xs q2.2.2.2.1 (by omega) w (by omega), ref_xs q2.2.2.2.2.1 (by omega) w (by omega), ref_xs q2.2.2.2.2.2.1 (by omega) w (by omega), arr_xs q2.2.2.2.2.2.2.1 w, plan_xs q2.2.2.2.2.2.2.2.1 w (by omega), ways_xs q2.2.2.2.2.2.2.2.2.1 w (by omega), judge_xs q2.2.2.2.2.2.2.2.2.2.1 w (by omega), okO_xs q2.2.2.2.2.2.2.2.2.2.2 w⟩
  clear q1 q2 w k n10'
  refine n_obj f10 o10 (fun Z2 M2 s2 => n_text (by omega) (by rw [s2.1]) (s2.o rfl (by omega)) (s2.2.2.2.2.2.trans f10)) (fun Z11 M11 c11 q => ?_)
  obtain ⟨W, w, k, q1, q2, ma, mb⟩ := q
  have n11 : Z11.1 = 116 := by rw [k, q1, n10]
  have o11 := okO_xs o10 c11.x
  have n11' : W.1 = 116 := by rw [q1, n10]
  rw [n10] at q2 ma mb
  have p11 : okO Z11 114 0 = true ∧ Z11.2.2.2 114 2 = some 115 ∧ okO Z11 115 21 = true ∧ Z11.2.2.1 115 = 80 := ⟨okO_xs q2.1 w, ref_xs q2.2.1 (by omega) w (by omega), okO_xs q2.2.2.1 w, ((w.2.1 115 (by omega)).2).trans q2.2.2.2⟩
  clear q1 q2 w k n11'
  have z10 := c11.x
  have z9 := c10.x.tr z10
  have z8 := c9.x.tr z9
  have z7 := c8.x.tr z8
  have z6 := c7.x.tr z7
  have z5 := c6.x.tr z6
  have z4 := c5.x.tr z5
  have z3 := x4.tr z4
  have z2 := c3.x.tr z3
  have z1 := c2.x.tr z2
  have z0 := c1.x.tr z1
  refine n_end ⟨z0, n11, ⟨o11, ⟨?_, ?_, ?_, ?_, ?_, ?_, ?_, ?_, ?_, ?_⟩, ⟨plan_xs p1 z1 (by omega), plan_xs p2 z2 (by omega), plan_xs p3 z3 (by omega)⟩, ⟨okO_xs p5.1 z5, ref_xs p5.2.1 (by omega) z5 (by omega), okO_xs p5.2.2.1 z5, ((z5.2.1 28 (by omega)).2).trans p5.2.2.2.1, fun i hi => ⟨ref_xs (p5.2.2.2.2 i hi).1 (by omega) z5 (by omega), plan_xs (p5.2.2.2.2 i hi).2 z5 (by omega)⟩⟩, ways_xs p6 z6 (by omega), judge_xs p7 z7 (by omega), okO_xs (c8.o n7) z8, ?_, ?_, p11⟩, ?_⟩
  · exact c11.k (by decide) (c10.k (by decide) (c9.k (by decide) (c8.k (by decide) (c7.k (by decide) (c6.k (by decide) (c5.k (by decide) (c3.k (by decide) (c2.k (by decide) (c1.r h1)))))))))
  · exact c11.k (by decide) (c10.k (by decide) (c9.k (by decide) (c8.k (by decide) (c7.k (by decide) (c6.k (by decide) (c5.k (by decide) (c3.k (by decide) (c2.r n1))))))))
  · exact c11.k (by decide) (c10.k (by decide) (c9.k (by decide) (c8.k (by decide) (c7.k (by decide) (c6.k (by decide) (c5.k (by decide) (c3.r n2)))))))
  · exact c11.k (by decide) (c10.k (by decide) (c9.k (by decide) (c8.k (by decide) (c7.k (by decide) (c6.k (by decide) (c5.r n3))))))
  · exact c11.k (by decide) (c10.k (by decide) (c9.k (by decide) (c8.k (by decide) (c7.k (by decide) (c6.r n5)))))
  · exact c11.k (by decide) (c10.k (by decide) (c9.k (by decide) (c8.k (by decide) (c7.r n6))))
  · exact c11.k (by decide) (c10.k (by decide) (c9.k (by decide) (c8.r n7)))
  · exact c11.k (by decide) (c10.k (by decide) (c9.r n8))
  · exact c11.k (by decide) (c10.r n9)
  · exact c11.r n10
  · exact ⟨okO_xs p9.1 z9, ref_xs p9.2.1 (by omega) z9 (by omega), ref_xs p9.2.2.1 (by omega) z9 (by omega), arr_xs p9.2.2.2.1 z9, arr_xs p9.2.2.2.2 z9⟩
  · exact ⟨okO_xs p10.1 z10, ref_xs p10.2.1 (by omega) z10 (by omega), ref_xs p10.2.2.1 (by omega) z10 (by omega), ref_xs p10.2.2.2.1 (by omega) z10 (by omega), ref_xs p10.2.2.2.2.1 (by omega) z10 (by omega), ref_xs p10.2.2.2.2.2.1 (by omega) z10 (by omega), arr_xs p10.2.2.2.2.2.2.1 z10, plan_xs p10.2.2.2.2.2.2.2.1 z10 (by omega), ways_xs p10.2.2.2.2.2.2.2.2.1 z10 (by omega), judge_xs p10.2.2.2.2.2.2.2.2.2.1 z10 (by omega), okO_xs p10.2.2.2.2.2.2.2.2.2.2 z10⟩
  · refine ⟨rel_xs R1 z1 (by omega) (by omega), ?_, mem_xs q3 (by omega) z5 (by omega), mem_xs q4 (by omega) z5 (by omega), mem_xs m9 (by omega) z9 (by omega), mem_xs m10 (by omega) z10 (by omega), ma, mb⟩
    exact c11.m (by omega) (c10.m (by omega) (c9.m (by omega) (c8.m (by omega) (c7.m (by omega) (c6.m (by omega) (c5.m (by omega) m4))))))
/-- the reference is made -/
theorem n_mod (hN : 5000 ≤ N) {Z : mZ} {M : mM} (h1 : Z.1 = 117) (o0 : okO Z 116 9 = true) (hf : M.2.2.2 = 0) (hm : ∀ j, M.1 116 j = 0) : RZ (fX9_init N Z 116 M) (fun Z' M' => XS 116 Z M Z' M' ∧ Z'.1 = 129 ∧ ModAt Z' ∧ RowAt M' 117 (begR 4) ∧ (∀ j, j ≠ 6 → M'.1 116 j = 0) ∧ M'.1 116 6 = 0) := by
  unfold fX9_init
  refine n_arr hf o0 (fun Z1 M1 c1 => ?_)
  have n1 : Z1.1 = 118 := by rw [c1.1, h1]
  have o1 := okO_xs o0 c1.x
  have f1 := c1.f hf
  refine n_arr f1 o1 (fun Z2 M2 c2 => ?_)
  have n2 : Z2.1 = 119 := by rw [c2.1, n1]
  have o2 := okO_xs o1 c2.x
  have f2 := c2.f f1
  refine n_arr f2 o2 (fun Z3 M3 c3 => ?_)
  have n3 : Z3.1 = 120 := by rw [c3.1, n2]
  have o3 := okO_xs o2 c3.x
  have f3 := c3.f f2
  refine n_arr f3 o3 (fun Z4 M4 c4 => ?_)
  have n4 : Z4.1 = 121 := by rw [c4.1, n3]
  have o4 := okO_xs o3 c4.x
  have f4 := c4.f f3
  refine n_arr f4 o4 (fun Z5 M5 c5 => ?_)
  have n5 : Z5.1 = 122 := by rw [c5.1, n4]
  have o5 := okO_xs o4 c5.x
  have f5 := c5.f f4
  refine n_arr f5 o5 (fun Z6 M6 c6 => ?_)
  have n6 : Z6.1 = 123 := by rw [c6.1, n5]
  have o6 := okO_xs o5 c6.x
  have f6 := c6.f f5
  refine n_arr f6 o6 (fun Z7 M7 c7 => ?_)
  have n7 : Z7.1 = 124 := by rw [c7.1, n6]
  have o7 := okO_xs o6 c7.x
  have f7 := c7.f f6
  refine n_arr f7 o7 (fun Z8 M8 c8 => ?_)
  have n8 : Z8.1 = 125 := by rw [c8.1, n7]
  have o8 := okO_xs o7 c8.x
  have f8 := c8.f f7
  refine n_arr f8 o8 (fun Z9 M9 c9 => ?_)
  have n9 : Z9.1 = 126 := by rw [c9.1, n8]
  have o9 := okO_xs o8 c9.x
  have f9 := c9.f f8
  refine n_arr f9 o9 (fun Z10 M10 c10 => ?_)
  have n10 : Z10.1 = 127 := by rw [c10.1, n9]
  have o10 := okO_xs o9 c10.x
  have f10 := c10.f f9
  refine n_arr f10 o10 (fun Z11 M11 c11 => ?_)
  have n11 : Z11.1 = 128 := by rw [c11.1, n10]
  have o11 := okO_xs o10 c11.x
  have f11 := c11.f f10
  refine n_arr f11 o11 (fun Z12 M12 c12 => ?_)
  have n12 : Z12.1 = 129 := by rw [c12.1, n11]
  have o12 := okO_xs o11 c12.x
  have z11 := c12.x
  have z10 := c11.x.tr z11
  have z9 := c10.x.tr z10
  have z8 := c9.x.tr z9
  have z7 := c8.x.tr z8
  have z6 := c7.x.tr z7
  have z5 := c6.x.tr z6
  have z4 := c5.x.tr z5
  have z3 := c4.x.tr z4
  have z2 := c3.x.tr z3
  have z1 := c2.x.tr z2
  have z0 := c1.x.tr z1
  have hm12 : ∀ j, M12.1 116 j = 0 := fun j => c12.m (by omega) (c11.m (by omega) (c10.m (by omega) (c9.m (by omega) (c8.m (by omega) (c7.m (by omega) (c6.m (by omega) (c5.m (by omega) (c4.m (by omega) (c3.m (by omega) (c2.m (by omega) (c1.m (by omega) (hm j))))))))))))
  have P : ModAt Z12 := by
    refine ⟨o12, ⟨?_, ?_, ?_, ?_, ?_, ?_, ?_, ?_, ?_, ?_, ?_, c12.r n11⟩, arr_xs (c1.a h1 (by omega)) z1, arr_xs (c2.a n1 (by omega)) z2, arr_xs (c3.a n2 (by omega)) z3, arr_xs (c4.a n3 (by omega)) z4, arr_xs (c5.a n4 (by omega)) z5, arr_xs (c6.a n5 (by omega)) z6, arr_xs (c7.a n6 (by omega)) z7, arr_xs (c8.a n7 (by omega)) z8, arr_xs (c9.a n8 (by omega)) z9, arr_xs (c10.a n9 (by omega)) z10, arr_xs (c11.a n10 (by omega)) z11, c12.a n11 (by omega)⟩
    · exact c12.k (by decide) (c11.k (by decide) (c10.k (by decide) (c9.k (by decide) (c8.k (by decide) (c7.k (by decide) (c6.k (by decide) (c5.k (by decide) (c4.k (by decide) (c3.k (by decide) (c2.k (by decide) (c1.r h1)))))))))))
    · exact c12.k (by decide) (c11.k (by decide) (c10.k (by decide) (c9.k (by decide) (c8.k (by decide) (c7.k (by decide) (c6.k (by decide) (c5.k (by decide) (c4.k (by decide) (c3.k (by decide) (c2.r n1))))))))))
    · exact c12.k (by decide) (c11.k (by decide) (c10.k (by decide) (c9.k (by decide) (c8.k (by decide) (c7.k (by decide) (c6.k (by decide) (c5.k (by decide) (c4.k (by decide) (c3.r n2)))))))))
    · exact c12.k (by decide) (c11.k (by decide) (c10.k (by decide) (c9.k (by decide) (c8.k (by decide) (c7.k (by decide) (c6.k (by decide) (c5.k (by decide) (c4.r n3))))))))
    · exact c12.k (by decide) (c11.k (by decide) (c10.k (by decide) (c9.k (by decide) (c8.k (by decide) (c7.k (by decide) (c6.k (by decide) (c5.r n4)))))))
    · exact c12.k (by decide) (c11.k (by decide) (c10.k (by decide) (c9.k (by decide) (c8.k (by decide) (c7.k (by decide) (c6.r n5))))))
    · exact c12.k (by decide) (c11.k (by decide) (c10.k (by decide) (c9.k (by decide) (c8.k (by decide) (c7.r n6)))))
    · exact c12.k (by decide) (c11.k (by decide) (c10.k (by decide) (c9.k (by decide) (c8.r n7))))
    · exact c12.k (by decide) (c11.k (by decide) (c10.k (by decide) (c9.r n8)))
    · exact c12.k (by decide) (c11.k (by decide) (c10.r n9))
    · exact c12.k (by decide) (c11.r n10)
  rw [ck_t o12]
  have fr := begMM_fr (M := M12) (b := (4 : Int32))
  refine n_last (M' := begMM M12 (4 : Int32)) (m_begins (N := N) hN P 4) ⟨⟨z0.1, z0.2.1, fun r hr hn j => ⟨(z0.2.2.1 r hr hn j).1, ?_⟩, ?_⟩, n12, P, begMM_row 4, fun j hj => ?_, ?_⟩
  · rw [fr.1 r j (by omega)]; exact (z0.2.2.1 r hr hn j).2
  · rw [show (begMM M12 (4 : Int32)).2.2.2 = M12.2.2.2 from congrArg (fun t => t.2.2) fr.2]; exact z0.2.2.2
  · rw [fr.1 116 j (by omega)]; exact hm12 j
  · unfold begMM; rw [sI_same]
end NH
