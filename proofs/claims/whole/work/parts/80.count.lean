/-! ===== LAYER 3: calls that count: account, use, meanClass ===== -/
section OQ
variable {N : Nat} {Z : mZ} {M : mM} {A : Row} {c : Nat} {sv : Option Row} {H : Nat → Row} {n : Nat} {rp : Nat → Nat × Nat} {r : Nat} {tx : Nat → Nat} {len : Nat}
theorem reach_cnt (hD : isD A (aD A)) : cntD (aD A) = sm (fun b => pc (rB A b)) 10 := by
  unfold cntD
  rw [show (70 : Nat) = 7 * 10 from rfl, sm7]
  refine sm_congr (fun b hb => ?_)
  have z : aD A (7 * b) = 0 := Classical.byContradiction (fun q => by
    have h1 := hD.1 b 0 (by omega) (by omega) q
    have := dm_bit7 A b h1.2; omega)
  have g : ∀ l, 1 ≤ l → l ≤ 6 → rch A b l = decide (aD A (7 * b + l) ≠ 0) := fun l h1 h6 => by unfold rch; rw [decide_eq_true h1, decide_eq_true h6]; rfl
  have e : ∀ x : Nat, (if x = 0 then (0 : Nat) else 1) = (if decide (x ≠ 0) = true then 1 else 0) := fun x => by by_cases h : x = 0 <;> simp [h]
  show (if aD A (7 * b) = 0 then 0 else 1) + (if aD A (7 * b + 1) = 0 then 0 else 1) + (if aD A (7 * b + 2) = 0 then 0 else 1) + (if aD A (7 * b + 3) = 0 then 0 else 1) + (if aD A (7 * b + 4) = 0 then 0 else 1) + (if aD A (7 * b + 5) = 0 then 0 else 1) + (if aD A (7 * b + 6) = 0 then 0 else 1) = pc (rB A b)
  unfold rB
  rw [g 1 (by omega) (by omega), g 2 (by omega) (by omega), g 3 (by omega) (by omega), g 4 (by omega) (by omega), g 5 (by omega) (by omega), g 6 (by omega) (by omega), ← cb_all, z, e, e (aD A (7 * b + 1)), e (aD A (7 * b + 2)), e (aD A (7 * b + 3)), e (aD A (7 * b + 4)), e (aD A (7 * b + 5)), e (aD A (7 * b + 6))]
  rfl
theorem op_account (hN : 5000 ≤ N) (hC : ClsAt Z) (hM : ModAt Z) (w : WFs c A sv H n) (h : CI M A sv H n rp r tx len) (x : Int32) : OpOK M (A, sv, H, n, rp, r, tx, len) c (fX8_account N Z 8 x M) (fX9_account N Z 116 x) (fun _ => IAE) := by
  have hS : CS M (A, sv, H, n, rp, r, tx, len) := h
  have wS : WS c (A, sv, H, n, rp, r, tx, len) := w
  have h1 := w.1.1
  obtain ⟨o8, ⟨r0, r1, r2, r4, r5, r6, r7, r8, r9, r10⟩, ⟨p9, -⟩, -, y77, -⟩ := hC
  have p9' := p9
  obtain ⟨q1, q2, q3, q4, q5, q6, -, -, -, ⟨b4, b5, b6⟩, ⟨d4, d5, d6⟩⟩ := p9'
  have hM' := hM
  obtain ⟨o1, ⟨m0, -⟩, ⟨a4, a5, a6⟩, -⟩ := hM'
  rcases in_cases x (lo := 0) (hi := 17) (by omega) (by omega) with ⟨v, rfl, g1, g2⟩ | ⟨e3, e4⟩
  · have inv : ∀ M1 : mM, fX9_in N Z (nI v) (0 : Int32) (17 : Int32) M1 = some (1, M1) := fun M1 => in_yes (lo := 0) (hi := 17) g1 g2 (by omega)
    have c17 : nI v ≤ (17 : Int32) := by rw [i_17, i_le (by omega) (by omega)]; exact g2
    by_cases c6 : v < 6
    · have z6 : ¬ (6 : Int32) ≤ nI v := by rw [i_6, i_le (by omega) (by omega)]; omega
      refine OpOK.of_yes (nI (aPieces A v)) wS (CK.same hS ?_) (MK.same (fun M1 hM1 => ?_))
      · unfold fX8_account
        rw [if_neg (nI_pos (by omega)), if_pos c17, if_neg z6, ck_t o8, r0, bnd1_some, ck_t q1, k_pieces hN p9 h.1 w.1 (by omega), bnd2_some]
      · have t := hM1.thr (0 : Int32)
        unfold fX9_account
        rw [inv, bnd2_some, if_neg (by decide)]
        unfold fX9_account_16
        rw [ck_t o1, ck_t o1, sI_same, if_pos (by decide), if_neg z6, m_pieces hN hM w.1 t.1 (by omega), bnd2_some]; try rfl
    have y6 : (6 : Int32) ≤ nI v := by rw [i_6, i_le (by omega) (by omega)]; omega
    by_cases c12 : v < 12
    · have z12 : ¬ (12 : Int32) ≤ nI v := by rw [i_12, i_le (by omega) (by omega)]; omega
      have e5 : (5 : Int32) + nI v - (6 : Int32) = nI (5 + v - 6) := by rw [i_5, nI_add]; exact i_sub (b := 6) (by omega)
      refine OpOK.of_yes (nI (A (5 + (v - 6)))) wS (CK.same hS ?_) (MK.same (fun M1 hM1 => ?_))
      · unfold fX8_account
        rw [if_neg (nI_pos (by omega)), if_pos c17, if_pos y6, if_neg z12, ck_t o8, r0, bnd1_some, ck_t q1, q6, bnd1_some, show nI v - (6 : Int32) = nI (v - 6) from i_sub (b := 6) (by omega), k_at d5 (by omega) (by omega), bnd2_some, h.1.2.2.2.2.2.2.2 (v - 6) (by omega)]
      · have t := hM1.thr (0 : Int32)
        unfold fX9_account
        rw [inv, bnd2_some, if_neg (by decide)]
        unfold fX9_account_16
        rw [ck_t o1, ck_t o1, sI_same, if_pos (by decide), if_pos y6, if_neg z12, m0, bnd1_some, ck_t a5, e5, a6, ck_t (by rw [i_inB (by omega)]; exact decide_eq_true (by omega)), i_cl (by omega), t.1 _ (by omega), show 5 + v - 6 = 5 + (v - 6) by omega]; try rfl
    have y12 : (12 : Int32) ≤ nI v := by rw [i_12, i_le (by omega) (by omega)]; omega
    by_cases v12 : v = 12
    · subst v12
      refine OpOK.of_yes (nI (A 0)) wS (CK.same hS ?_) (MK.same (fun M1 hM1 => ?_))
      · unfold fX8_account
        rw [if_neg (nI_pos (by omega)), if_pos c17, if_pos y6, if_pos y12, if_pos (show nI 12 = (12 : Int32) from rfl), ck_t o8, r0, bnd1_some, ck_t q1, h.1.1]
      · have t := hM1.thr (0 : Int32)
        unfold fX9_account
        rw [inv, bnd2_some, if_neg (by decide)]
        unfold fX9_account_16
        rw [ck_t o1, ck_t o1, sI_same, if_pos (by decide), if_pos y6, if_pos y12, if_pos (show nI 12 = (12 : Int32) from rfl), m0, bnd1_some, ck_t a5, ck_t (by rw [a6]; decide), cl_0, t.1 0 (by omega)]; try rfl
    have n12 : ¬ nI v = (12 : Int32) := by rw [i_12, i_eq (by omega) (by omega)]; exact v12
    by_cases v13 : v = 13
    · subst v13
      refine OpOK.of_yes (nI (A 4)) wS (CK.same hS ?_) (MK.same (fun M1 hM1 => ?_))
      · unfold fX8_account
        rw [if_neg (nI_pos (by omega)), if_pos c17, if_pos y6, if_pos y12, if_neg n12, if_pos (show nI 13 = (13 : Int32) from rfl), ck_t o8, r0, bnd1_some, ck_t q1, h.1.2.1]
      · have t := hM1.thr (0 : Int32)
        unfold fX9_account
        rw [inv, bnd2_some, if_neg (by decide)]
        unfold fX9_account_16
        rw [ck_t o1, ck_t o1, sI_same, if_pos (by decide), if_pos y6, if_pos y12, if_neg n12, if_pos (show nI 13 = (13 : Int32) from rfl), m0, bnd1_some, ck_t a5, ck_t (by rw [a6]; decide), cl_4, t.1 4 (by omega)]; try rfl
    have n13 : ¬ nI v = (13 : Int32) := by rw [i_13, i_eq (by omega) (by omega)]; exact v13
    by_cases v14 : v = 14
    · subst v14
      obtain ⟨M1, x1, x2, x3, x4⟩ := w_explore (N := N) y77 p9 (by omega) w.1 hN h.1
      refine OpOK.of_yes (nI (sm (fun b => pc (rB A b)) 10)) wS ⟨M1, ?_, x2.cl (fun a e => onSc_cl (inW_sc e)), h.sc x2.fr (fun a j e => inW_sc e)⟩ (fun M2 hM2 => ?_)
      · unfold fX8_account
        rw [if_neg (nI_pos (by omega)), if_pos c17, if_pos y6, if_pos y12, if_neg n12, if_neg n13, if_pos (by decide), ck_t o8, r5, bnd1_some, r0, bnd1_some, ck_t y77.1, x1, bnd2_some, w_count y77 hN x3, bnd2_some]; try rfl
      · have t := hM2.thr (0 : Int32)
        obtain ⟨M3, y1, y2, y3, y4⟩ := m_walks (N := N) hM w.1 hN t.1
        refine ⟨nI (cntD (aD A)), M3, ?_, mo_thr.trans (y2.mo (fun a j e => onW_in e)), ?_, fun v' e => by cases e; rw [reach_cnt x4], t.1.fr y2 not_onW117, t.2.fr y2 (fun a j e => onW_mr e)⟩
        · unfold fX9_account
          rw [inv, bnd2_some, if_neg (by decide)]
          unfold fX9_account_16
          rw [ck_t o1, ck_t o1, sI_same, if_pos (by decide), if_pos y6, if_pos y12, if_neg n12, if_neg n13, if_pos (by decide)]
          unfold fX9_reached
          rw [ck_t o1, y1, bnd2_some, bnd2_some, y3.2.1]
        · rw [y2.1 116 9 (fun e => by unfold onW at e; omega), sI_same]; rfl
    have n14 : ¬ nI v = (14 : Int32) := by rw [i_14, i_eq (by omega) (by omega)]; exact v14
    have z14 : ¬ nI v ≤ (14 : Int32) := by rw [i_14, i_le (by omega) (by omega)]; omega
    refine OpOK.of_yes (nI (A (1 + (v - 15)))) wS (CK.same hS ?_) (MK.same (fun M1 hM1 => ?_))
    · unfold fX8_account
      rw [if_neg (nI_pos (by omega)), if_pos c17, if_pos y6, if_pos y12, if_neg n12, if_neg n13, if_neg z14, ck_t o8, r0, bnd1_some, ck_t q1, q5, bnd1_some, show nI v - (15 : Int32) = nI (v - 15) from i_sub (b := 15) (by omega), k_at b5 (by omega) (by omega), bnd2_some, h.1.2.2.2.2.2.2.1 (v - 15) (by omega)]
    · have t := hM1.thr (0 : Int32)
      unfold fX9_account
      rw [inv, bnd2_some, if_neg (by decide)]
      unfold fX9_account_16
      rw [ck_t o1, ck_t o1, sI_same, if_pos (by decide), if_pos y6, if_pos y12, if_neg n12, if_neg n13, if_neg n14, m0, bnd1_some, ck_t a5, show nI v - (14 : Int32) = nI (v - 14) from i_sub (b := 14) (by omega), a6, ck_t (by rw [i_inB (by omega)]; exact decide_eq_true (by omega)), i_cl (by omega), t.1 _ (by omega), show v - 14 = 1 + (v - 15) by omega]; try rfl
  · refine OpOK.of_no (k := 1) ⟨by omega, by omega, by decide +kernel⟩ wS (CK.bad hS ?_) (MK.bad (fun M1 hM1 => ?_))
    · unfold fX8_account; exact thr2 e4
    · unfold fX9_account
      rw [show fX9_in N Z x (0 : Int32) (17 : Int32) M1 = some (0, M1) from e3 N Z M1, bnd2_some, if_pos rfl]
      unfold fX9_account_16
      rw [ck_t o1, ck_t o1, sI_same, if_neg (by decide)]; try rfl
/-- use: a share that is a number, or both refuse -/
theorem op_use (hN : 5000 ≤ N) (hC : ClsAt Z) (hM : ModAt Z) (w : WFs c A sv H n) (h : CI M A sv H n rp r tx len) (x : Int32) :
    (∃ u : UInt32, FP.Core.fIsNaN u = false ∧ fX8_use N Z 8 x M = some (.inl u, M) ∧ ∀ M1, MS M1 (A, sv, H, n, rp, r, tx, len) → fX9_use N Z 116 x M1 = some (u, sI M1 116 9 (0 : Int32))) ∨
    (fX8_use N Z 8 x M = some (.inr "java/lang/IndexOutOfBoundsException", sT M) ∧ ∀ M1, MS M1 (A, sv, H, n, rp, r, tx, len) → fX9_use N Z 116 x M1 = some (0, sI M1 116 9 (1 : Int32))) := by
  have h1 := w.1.1
  have h3 := w.1.2.2.2.1
  have C := hC
  obtain ⟨o8, ⟨r0, -⟩, ⟨p9, -⟩, -⟩ := hC
  have p9' := p9
  obtain ⟨q1, q2, q3, q4, q5, q6, -, -, -, ⟨b4, b5, b6⟩, -⟩ := p9'
  have hM' := hM
  obtain ⟨o1, ⟨m0, -⟩, ⟨a4, a5, a6⟩, -⟩ := hM'
  rcases place_cases (N := N) C hM w.1 x with ⟨p, rfl, hp⟩ | ⟨e1, e2⟩
  · have hu := useN (l := aLoad A p) (p := A 3) (by omega) (by omega)
    refine Or.inl ⟨FP.fdiv (FP.i2f (nI (aLoad A p))) (FP.i2f (nI (A 3))), hu, ?_, fun M1 hM1 => ?_⟩
    · unfold fX8_use
      rw [ck_t o8, r0, bnd1_some, ck_t q1, place_k C w.1 hp h.1, bnd2_some, if_neg (by decide), q5, bnd1_some, k_at2 b5 (by omega) (by omega), bnd2_some, h.1.r2, if_neg (cap_pos _ (by omega) (by omega)), k_postLoad hN p9 h.1 w.1 hp, bnd2_some, ck_t (nn32_of hu)]
    · have t := hM1.thr (0 : Int32)
      unfold fX9_use
      rw [ck_t o1, place_m hM w.1 hp hM1.1, bnd2_some, if_neg (by decide)]
      unfold fX9_use_14
      rw [ck_t o1, ck_t o1, sI_same, if_pos (by decide), m_loadOf hN hM t.1 w.1 hp, bnd2_some, m0, bnd1_some, ck_t a5, ck_t (by rw [a6]; decide), cl_3, t.1 3 (by omega), ck_t (nn32_of hu)]
  · refine Or.inr ⟨?_, fun M1 hM1 => ?_⟩
    · unfold fX8_use
      rw [ck_t o8, r0, bnd1_some, ck_t q1, e1 M h.1, bnd2_some, if_pos rfl]
    · unfold fX9_use
      rw [ck_t o1, e2 M1 hM1.1, bnd2_some, if_pos rfl]
      unfold fX9_use_14
      rw [ck_t o1, ck_t o1, sI_same, if_neg (by decide)]
theorem m_mean10 (hN : 5000 ≤ N) (hM : ModAt Z) (w : WF A c) {M : mM} (hR : RowAt M 117 A) (v : Nat) : ∀ (j i fu : Nat), i + j = A 0 → j < fu →
    fX9_meanClass_10 N Z fu 116 (nI v) (nI (sm (cls A) i)) (nI i) M = if nI v = 0 then some (0, sI M 116 9 (1 : Int32)) else ck (nn64 (FP.ddiv (FP.i2d (nI (sm (cls A) (A 0)))) (FP.i2d (nI v)))) (some (FP.ddiv (FP.i2d (nI (sm (cls A) (A 0)))) (FP.i2d (nI v)), sI M 116 9 (0 : Int32))) := by
  have h1 := w.1
  have hM' := hM
  obtain ⟨o1, ⟨m0, -⟩, ⟨a4, a5, a6⟩, -⟩ := hM'
  intro j
  induction j with
  | zero =>
    intro i fu h2 h3
    obtain ⟨fu, rfl⟩ : ∃ q, fu = q + 1 := ⟨fu - 1, by omega⟩
    have hi : i = A 0 := by omega
    subst hi
    rw [fX9_meanClass_10, ck_t o1, m0, bnd1_some, ck_t a5, ck_t (by rw [a6]; decide), cl_0, hR 0 (by omega), if_pos (by rw [i_le (by omega) (by omega)]; omega)]
    by_cases q : nI v = 0
    · rw [if_pos q, if_pos q, if_pos q]
    · rw [if_neg q, if_neg q, if_neg q]
  | succ j ih =>
    intro i fu h2 h3
    obtain ⟨fu, rfl⟩ : ∃ q, fu = q + 1 := ⟨fu - 1, by omega⟩
    have hi := ih (i + 1) fu (by omega) (by omega)
    rw [fX9_meanClass_10, ck_t o1, m0, bnd1_some, ck_t a5, ck_t (by rw [a6]; decide), cl_0, hR 0 (by omega), if_neg (by rw [i_le (by omega) (by omega)]; omega), m_classes hN hM hR (by omega), bnd2_some, nI_add, nI_1]
    exact hi
theorem op_mean (hN : 5000 ≤ N) (hC : ClsAt Z) (hM : ModAt Z) (w : WFs c A sv H n) (h : CI M A sv H n rp r tx len) :
    (∃ u : UInt64, FP.Core.dIsNaN u = false ∧ fX8_meanClass N Z 8 M = some (.inl u, M) ∧ ∀ M1, MS M1 (A, sv, H, n, rp, r, tx, len) → fX9_meanClass N Z 116 M1 = some (u, sI M1 116 9 (0 : Int32))) ∨
    (fX8_meanClass N Z 8 M = some (.inr "java/lang/ArithmeticException", sT M) ∧ ∀ M1, MS M1 (A, sv, H, n, rp, r, tx, len) → fX9_meanClass N Z 116 M1 = some (0, sI M1 116 9 (1 : Int32))) := by
  have h1 := w.1.1
  obtain ⟨o8, ⟨r0, -⟩, ⟨p9, -⟩, -⟩ := hC
  have o1 := hM.1
  have le : aPieces A 2 ≤ 130 := Nat.le_trans (sm_le (n := A 0) (k := 13) (fun i hi => pc_le _)) (by omega)
  have kp : fX4_piecesPlaced N Z 9 (2 : Int32) M = some (nI (aPieces A 2), M) := k_pieces (k := 2) hN p9 h.1 w.1 (by omega)
  have mp : ∀ M1, MS M1 (A, sv, H, n, rp, r, tx, len) → fX9_pieces N Z 116 (2 : Int32) M1 = some (nI (aPieces A 2), M1) := fun M1 hM1 => m_pieces (k := 2) hN hM w.1 hM1.1 (by omega)
  by_cases z : aPieces A 2 = 0
  · have z' : nI (aPieces A 2) = 0 := by rw [z]; rfl
    refine Or.inr ⟨?_, fun M1 hM1 => ?_⟩
    · unfold fX8_meanClass
      rw [ck_t o8, r0, bnd1_some, ck_t p9.1, kp, bnd2_some, if_pos z']
    · unfold fX9_meanClass
      rw [ck_t o1, mp M1 hM1, bnd2_some]
      refine (m_mean10 (N := N) hN hM w.1 hM1.1 (aPieces A 2) (A 0) 0 N (by omega) (by omega)).trans ?_
      rw [if_pos z']
  · have z' : ¬ nI (aPieces A 2) = 0 := by rw [i_0, i_eq (by omega) (by omega)]; exact z
    have hu := meanN (l := sm (cls A) (A 0)) (p := aPieces A 2) (by omega) (by omega)
    refine Or.inl ⟨FP.ddiv (FP.i2d (nI (sm (cls A) (A 0)))) (FP.i2d (nI (aPieces A 2))), hu, ?_, fun M1 hM1 => ?_⟩
    · unfold fX8_meanClass
      rw [ck_t o8, r0, bnd1_some, ck_t p9.1, kp, bnd2_some, if_neg z', k_sum hN p9 h.1, bnd2_some, sm_cls w.1, ck_t (nn64_of hu)]
    · unfold fX9_meanClass
      rw [ck_t o1, mp M1 hM1, bnd2_some]
      refine (m_mean10 (N := N) hN hM w.1 hM1.1 (aPieces A 2) (A 0) 0 N (by omega) (by omega)).trans ?_
      rw [if_neg z', ck_t (nn64_of hu)]
end OQ
