/-! ===== LAYER 3: the law from its entry ===== -/
theorem cls_xs {b : Nat} {Z Z' : mZ} {M M' : mM} (h : ClsAt Z) (x : XS b Z M Z' M') (hb : 116 ≤ b) (h116 : 116 ≤ Z.1) : ClsAt Z' := by
  obtain ⟨o8, ⟨r0, r1, r2, r4, r5, r6, r7, r8, r9, r10⟩, ⟨p9, p15, p21⟩, ⟨h1, h2, h3, h4, h5⟩, y77, j82, o89, ⟨q1, q2, q3, q4, q5⟩, ⟨d1, d2, d3, d4, d5, d6, d7, d8, d9, d10, d11⟩, ⟨t1, t2, t3, t4⟩⟩ := h
  exact ⟨okO_xs o8 x, ⟨ref_xs r0 (by omega) x (by omega), ref_xs r1 (by omega) x (by omega), ref_xs r2 (by omega) x (by omega), ref_xs r4 (by omega) x (by omega), ref_xs r5 (by omega) x (by omega), ref_xs r6 (by omega) x (by omega), ref_xs r7 (by omega) x (by omega), ref_xs r8 (by omega) x (by omega), ref_xs r9 (by omega) x (by omega), ref_xs r10 (by omega) x (by omega)⟩,
    ⟨plan_xs p9 x (by omega), plan_xs p15 x (by omega), plan_xs p21 x (by omega)⟩,
    ⟨okO_xs h1 x, ref_xs h2 (by omega) x (by omega), okO_xs h3 x, ((x.2.1 28 (by omega)).2).trans h4, fun i hi => ⟨ref_xs (h5 i hi).1 (by omega) x (by omega), plan_xs (h5 i hi).2 x (by omega)⟩⟩, ways_xs y77 x (by omega), judge_xs j82 x (by omega), okO_xs o89 x,
    ⟨okO_xs q1 x, ref_xs q2 (by omega) x (by omega), ref_xs q3 (by omega) x (by omega), arr_xs q4 x, arr_xs q5 x⟩,
    ⟨okO_xs d1 x, ref_xs d2 (by omega) x (by omega), ref_xs d3 (by omega) x (by omega), ref_xs d4 (by omega) x (by omega), ref_xs d5 (by omega) x (by omega), ref_xs d6 (by omega) x (by omega), arr_xs d7 x, plan_xs d8 x (by omega), ways_xs d9 x (by omega), judge_xs d10 x (by omega), okO_xs d11 x⟩,
    ⟨okO_xs t1 x, ref_xs t2 (by omega) x (by omega), okO_xs t3 x, ((x.2.1 115 (by omega)).2).trans t4⟩⟩
theorem mod_xs {b : Nat} {Z Z' : mZ} {M M' : mM} (h : ModAt Z) (x : XS b Z M Z' M') (hb : 129 ≤ b) (h129 : 129 ≤ Z.1) : ModAt Z' := by
  obtain ⟨o1, ⟨r0, r1, r2, r3, r5, r7, r11, r12, r15, r17, r20, r22⟩, a0, a1, a2, a3, a4, a5, a6, a7, a8, a9, a10, a11⟩ := h
  exact ⟨okO_xs o1 x, ⟨ref_xs r0 (by omega) x (by omega), ref_xs r1 (by omega) x (by omega), ref_xs r2 (by omega) x (by omega), ref_xs r3 (by omega) x (by omega), ref_xs r5 (by omega) x (by omega), ref_xs r7 (by omega) x (by omega), ref_xs r11 (by omega) x (by omega), ref_xs r12 (by omega) x (by omega), ref_xs r15 (by omega) x (by omega), ref_xs r17 (by omega) x (by omega), ref_xs r20 (by omega) x (by omega), ref_xs r22 (by omega) x (by omega)⟩,
    arr_xs a0 x, arr_xs a1 x, arr_xs a2 x, arr_xs a3 x, arr_xs a4 x, arr_xs a5 x, arr_xs a6 x, arr_xs a7 x, arr_xs a8 x, arr_xs a9 x, arr_xs a10 x, arr_xs a11 x⟩
/-- what the statics hold, and the script -/
def stM (xs : Nat → Int32) (r j : Nat) : Int32 :=
  if r = 0 then xs j else if r = 1 then (if j = 0 then nI 3 else if j = 1 then nI 2 else nI 600) else if r = 2 then (if j = 0 then nI 1 else if j = 1 then nI 0 else nI 100) else if r = 3 then (if j = 0 then nI 4 else if j = 1 then nI 3 else nI 2000) else (if j = 0 then nI 5 else if j = 1 then nI 4 else if j = 2 then nI 3 else if j = 3 then nI 2 else nI 0)
def z0L (L r : Nat) : Nat := if r = 0 then L else if r = 4 then 5 else 3
def Z0 (L : Nat) : mZ := (8, fun _ => 0, z0L L, fun _ _ => none)
def M0 (xs : Nat → Int32) : mM := (stM xs, fun _ _ => 0, fun _ _ => 0, 0)
theorem law_run {L : Nat} {xs : Nat → Int32} (hL : L ≤ 2560) : ∃ M', fL_law 5000 (Z0 L) 0 (M0 xs) = some (1, M') := by
  have hN : 5000 ≤ 5000 := Nat.le_refl _
  have S0 : Stat (Z0 L) (M0 xs) := ⟨⟨rfl, rfl, rfl, rfl⟩, ⟨rfl, rfl, rfl⟩, ⟨rfl, rfl, rfl⟩, ⟨rfl, rfl, rfl⟩, rfl, rfl, rfl, rfl, rfl⟩
  have f0 : (M0 xs).2.2.2 = 0 := rfl
  have z0 : (Z0 L).1 = 8 := rfl
  have s1 : NSt (Z0 L) (M0 xs) 8 0 (zNew (Z0 L) 8 0) (mNew (M0 xs) (Z0 L).1) := ⟨rfl, fun _ => rfl, fun _ => rfl, fun _ _ => rfl, fun _ _ => rfl, rfl⟩
  have x1 : XS 8 (Z0 L) (M0 xs) (zNew (Z0 L) 8 0) (mNew (M0 xs) (Z0 L).1) := s1.xs
  obtain ⟨Za, Ma, e2, x2, n2, hC, m2⟩ := n_cls (N := 5000) hN (stat_xs S0 x1 (by omega) (by omega)) (by rw [s1.1, z0]) (s1.o z0 (by omega)) (x1.2.2.2.trans f0)
  have y2 : XS 8 (Z0 L) (M0 xs) Za Ma := x1.tr x2
  have f2 : Ma.2.2.2 = 0 := y2.2.2.2.trans f0
  have s3 : NSt Za Ma 9 0 (zNew Za 9 0) (mNew Ma Za.1) := ⟨rfl, fun _ => rfl, fun _ => rfl, fun _ _ => rfl, fun _ _ => rfl, rfl⟩
  have x3 : XS 116 Za Ma (zNew Za 9 0) (mNew Ma Za.1) := s3.xs
  obtain ⟨Zb, Mb, e4, x4, n4, hM, g1, g2, g3⟩ := n_mod (N := 5000) hN (by rw [s3.1, n2]) (s3.o n2 (by omega)) (x3.2.2.2.trans f2) (fun j => by rw [s3.2.2.2.2.1, if_pos n2.symm])
  have y4 : XS 116 Za Ma Zb Mb := x3.tr x4
  have f4 : Mb.2.2.2 = 0 := y4.2.2.2.trans f2
  have s5 : NSt Zb Mb 22 1 (zNew Zb 22 1) (mNew Mb Zb.1) := ⟨rfl, fun _ => rfl, fun _ => rfl, fun _ _ => rfl, fun _ _ => rfl, rfl⟩
  have n5 : (zNew Zb 22 1).1 = 130 := by rw [s5.1, n4]
  have s6 : NSt (zNew Zb 22 1) (mNew Mb Zb.1) 23 1 (zNew (zNew Zb 22 1) 23 1) (mNew (mNew Mb Zb.1) (zNew Zb 22 1).1) := ⟨rfl, fun _ => rfl, fun _ => rfl, fun _ _ => rfl, fun _ _ => rfl, rfl⟩
  obtain ⟨Zf, hZf⟩ : ∃ z, z = zNew (zNew Zb 22 1) 23 1 := ⟨_, rfl⟩
  obtain ⟨Mf, hMf⟩ : ∃ m, m = mNew (mNew Mb Zb.1) (zNew Zb 22 1).1 := ⟨_, rfl⟩
  rw [← hZf, ← hMf] at s6
  have x5 : XS 129 Zb Mb (zNew Zb 22 1) (mNew Mb Zb.1) := s5.xs
  have x6 : XS 129 (zNew Zb 22 1) (mNew Mb Zb.1) Zf Mf := s6.xs
  have y6 : XS 129 Zb Mb Zf Mf := x5.tr x6
  have yb : XS 116 Za Ma Zf Mf := y4.trans y6 (Or.inr (by omega))
  have ya : XS 8 (Z0 L) (M0 xs) Zf Mf := y2.trans yb (Or.inr (by omega))
  have lZ : LawZ Zf L := by
    refine ⟨cls_xs hC yb (by omega) (by omega), mod_xs hM y6 (by omega) (by omega), ⟨okO_xs (s5.o n4 (by omega)) x6, ?_⟩, ⟨s6.o n5 (by omega), ?_⟩, ?_⟩
    · rw [(x6.2.1 129 (by omega)).2, s5.2.2.1, if_pos n4.symm]
    · rw [s6.2.2.1, if_pos n5.symm]
    · exact (ya.2.1 0 (by omega)).2
  obtain ⟨k1, k2, k3, k4, k5, k6, k7, k8⟩ := m2
  have mc : ∀ a j v, Ma.1 a j = v → a < 116 → Mf.1 a j = v := fun a j v e ha => mem_xs e (by omega) yb (by omega)
  have mm : ∀ j, j ≠ 6 → Mf.1 116 j = 0 := fun j hj => mem_xs (g2 j hj) (by omega) y6 (by omega)
  have w0 : WF (begR 4) 0 := begR_wf (by omega) (by omega) (by omega)
  have hI : LI xs (27 * 0) Zf Mf := by
    refine ⟨fun j => ?_, stat_xs S0 ya (by omega) (by omega), (begR 4, none, fun _ => begR 4, 0, fun _ => (0, 0), 0, fun _ => 0, 0), ?_, ?_, ⟨w0, fun S h => (by cases h), fun i hi => absurd hi (Nat.not_lt_zero i)⟩⟩
    · rw [(ya.2.2.1 0 (by omega) (by omega) j).2]; rfl
    · refine ⟨rel_xs k1 yb (by omega) (by omega), Or.inl (mc _ _ _ k6 (by omega)), ⟨?_, fun S h => by cases h⟩, ⟨0, Nat.zero_le _, by omega, mc _ _ _ k3 (by omega), mc _ _ _ k4 (by omega), fun i hi => absurd hi (Nat.not_lt_zero i)⟩, ⟨Nat.zero_le _, mc _ _ _ k5 (by omega), fun i hi => absurd hi (Nat.not_lt_zero i)⟩, 0, mc _ _ _ k7 (by omega), mc _ _ _ k8 (by omega), fun i hi => absurd hi (Nat.not_lt_zero i), Nat.zero_le _, fun i hi => absurd hi (Nat.not_lt_zero i)⟩
      rw [if_pos rfl]; exact mc _ _ _ k2 (by omega)
    · refine ⟨fun j hj => ?_, ⟨?_, fun S h => by cases h⟩, ⟨Nat.zero_le _, mem_xs g3 (by omega) y6 (by omega), fun i hi => absurd hi (Nat.not_lt_zero i)⟩, ⟨Nat.zero_le _, mm 8 (by omega), fun i hi => absurd hi (Nat.not_lt_zero i)⟩, 0, mm 18 (by omega), mm 19 (by omega), fun i hi => absurd hi (Nat.not_lt_zero i), Nat.zero_le _, fun i hi => absurd hi (Nat.not_lt_zero i)⟩
      · exact mem_xs (g1 j hj) (by omega) y6 (by omega)
      · rw [if_pos rfl]; exact mm 4 (by omega)
  obtain ⟨M', e⟩ := law_all (N := 5000) (xs := xs) hN lZ hL 512 0 513 Mf (by omega) (by omega) (by omega) hI
  refine ⟨M', ?_⟩
  unfold fL_law
  rw [ck_t (decide_eq_true f0), show fX8_init 5000 (zNew (Z0 L) 8 0) (Z0 L).1 (mNew (M0 xs) (Z0 L).1) = some ((), (Za, Ma)) from e2, bnd2_some, ck_t (decide_eq_true (show (Za, Ma).2.2.2.2 = 0 from f2))]
  show bnd2 (fX9_init 5000 (zNew Za 9 0) Za.1 (mNew Ma Za.1)) _ = _
  rw [show fX9_init 5000 (zNew Za 9 0) Za.1 (mNew Ma Za.1) = some ((), (Zb, Mb)) from by rw [← e4, n2], bnd2_some, ck_t (decide_eq_true (show (Zb, Mb).2.2.2.2 = 0 from f4))]
  show ck (decide ((mNew Mb Zb.1).2.2.2 = 0)) (fL_law_28 5000 (zNew (zNew Zb 22 1) 23 1) 513 0 (Z0 L).1 Za.1 Zb.1 (zNew Zb 22 1).1 (0 : Int32) (mNew (mNew Mb Zb.1) (zNew Zb 22 1).1)) = _
  rw [ck_t (decide_eq_true (show (mNew Mb Zb.1).2.2.2 = 0 from f4)), ← hZf, ← hMf, n5, n4, n2, z0]
  exact e
