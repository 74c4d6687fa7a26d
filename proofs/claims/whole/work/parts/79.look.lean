/-! ===== LAYER 3: calls that look: report, bay, post, load, steps ===== -/
theorem onW_mr {a j : Nat} (h : onW a j) : onMr a j := by unfold onW at h; unfold onMr; omega
theorem onW_in {a j : Nat} (h : onW a j) : 116 ≤ a ∧ a ≤ 128 := by unfold onW at h; omega
theorem inW_sc {a : Nat} (h : inW 77 a) : onSc a := by have := h.1; have := h.2; unfold onSc; omega
section OL
variable {N : Nat} {Z : mZ} {M : mM} {A : Row} {c : Nat} {sv : Option Row} {H : Nat → Row} {n : Nat} {rp : Nat → Nat × Nat} {r : Nat} {tx : Nat → Nat} {len : Nat}
theorem op_report (hC : ClsAt Z) (hM : ModAt Z) (w : WFs c A sv H n) (h : CI M A sv H n rp r tx len) (x : Int32) (b : Bool) : OpOK M (A, sv, H, n, rp, r, tx, len) c (fX8_report N Z 8 x (if b then 1 else 0) M) (fX9_report N Z 116 x (if b then 1 else 0)) (fun _ => NSE) := by
  have hS : CS M (A, sv, H, n, rp, r, tx, len) := h
  have wS : WS c (A, sv, H, n, rp, r, tx, len) := w
  obtain ⟨g1, g2, g3⟩ := h.2.2.2.2.1
  obtain ⟨o8, ⟨r0, r1, r2, r4, r5, r6, r7, r8, r9, r10⟩, -, -, -, -, -, hR, -⟩ := hC
  have hM' := hM
  obtain ⟨o1, ⟨-, -, -, -, -, m7, -⟩, -, -, -, -, -, ⟨a4, a5, a6⟩, -⟩ := hM'
  have bad : (∀ M1 : mM, fX9_in N Z x (0 : Int32) (nI r - (1 : Int32)) M1 = some (0, M1)) → fX8_report N Z 8 x (if b then 1 else 0) M = some (.inr "java/util/NoSuchElementException", sT M) → OpOK M (A, sv, H, n, rp, r, tx, len) c (fX8_report N Z 8 x (if b then 1 else 0) M) (fX9_report N Z 116 x (if b then 1 else 0)) (fun _ => NSE) := fun e1 e2 => by
    refine OpOK.of_no (k := 1) ⟨by omega, by omega, by decide +kernel⟩ wS (CK.bad hS e2) (MK.bad (fun M1 hM1 => ?_))
    have f2 : M1.1 116 8 = nI r := hM1.2.2.2.1.2.1
    unfold fX9_report
    rw [ck_t o1, f2, e1, bnd2_some, if_pos rfl]
    unfold fX9_report_20
    rw [ck_t o1, ck_t o1, sI_same, if_neg (by decide)]; try rfl
  rcases i32_cases x with hx | ⟨i, hi, rfl⟩
  · exact bad (fun M1 => by unfold fX9_in; rw [if_pos hx]) (by unfold fX8_report; rw [if_pos hx])
  by_cases q : i < r
  · refine OpOK.of_yes (nI (if b then (rp i).2 else (rp i).1)) wS (CK.same hS ?_) (MK.same (fun M1 hM1 => ?_))
    · unfold fX8_report
      rw [if_neg (nI_pos (by omega)), ck_t o8, r8, bnd1_some, ck_t hR.1, g2, if_pos (by rw [i_lt (by omega) (by omega)]; exact q)]
      cases b with
      | false => rw [if_pos (by decide), hR.2.1, bnd1_some, k_at hR.2.2.2.1.2.1 (by rw [hR.2.2.2.1.2.2]; omega) (by rw [hR.2.2.2.1.2.2]; omega), bnd2_some, (g3 i q).1]; try rfl
      | true => rw [if_neg (by decide), hR.2.2.1, bnd1_some, k_at hR.2.2.2.2.2.1 (by rw [hR.2.2.2.2.2.2]; omega) (by rw [hR.2.2.2.2.2.2]; omega), bnd2_some, (g3 i q).2]; try rfl
    · have f2 : M1.1 116 8 = nI r := hM1.2.2.2.1.2.1
      have f3 := hM1.2.2.2.1.2.2 i q
      have q0 : (2 : Int32) * nI i + (0 : Int32) = nI (2 * i) := by rw [i_2, pk_mul]; exact nI_add (2 * i) 0
      have q1 : (2 : Int32) * nI i + (1 : Int32) = nI (2 * i + 1) := by rw [i_2, pk_mul]; exact nI_add (2 * i) 1
      unfold fX9_report
      rw [ck_t o1, f2, show nI r - (1 : Int32) = nI (r - 1) from i_sub (b := 1) (by omega), show fX9_in N Z (nI i) (0 : Int32) (nI (r - 1)) M1 = some (1, M1) from in_yes (lo := 0) (by omega) (by omega) (by omega), bnd2_some, if_neg (by decide)]
      unfold fX9_report_20
      rw [ck_t o1, ck_t o1, sI_same, if_pos (by decide), m7, bnd1_some]
      cases b with
      | false => rw [if_pos (by decide), ck_t a5, q0, a6, ck_t (by rw [i_inB (by omega)]; exact decide_eq_true (by omega)), i_cl (by omega), sI_ne _ _ (by omega), f3.1]; try rfl
      | true => rw [if_neg (by decide), ck_t a5, q1, a6, ck_t (by rw [i_inB (by omega)]; exact decide_eq_true (by omega)), i_cl (by omega), sI_ne _ _ (by omega), f3.2]; try rfl
  · refine bad (fun M1 => ?_) ?_
    · by_cases z : r = 0
      · rw [z]
        unfold fX9_in
        rw [if_neg (nI_pos (by omega)), if_pos (by rw [Int32.lt_iff_toInt_lt, nI_toInt (by omega)]; have : (nI 0 - 1 : Int32).toInt = -1 := rfl; omega)]
      · rw [show nI r - (1 : Int32) = nI (r - 1) from i_sub (b := 1) (by omega), show fX9_in N Z (nI i) (0 : Int32) (nI (r - 1)) M1 = some (if 0 ≤ i ∧ i ≤ r - 1 then 1 else 0, M1) from m_in (l := 0) (by omega) (by omega) (by omega), if_neg (by omega)]
    · unfold fX8_report
      rw [if_neg (nI_pos (by omega)), ck_t o8, r8, bnd1_some, ck_t hR.1, g2, if_neg (by rw [i_lt (by omega) (by omega)]; exact q)]
theorem op_bay (hN : 5000 ≤ N) (hC : ClsAt Z) (hM : ModAt Z) (w : WFs c A sv H n) (h : CI M A sv H n rp r tx len) (x y : Int32) : OpOK M (A, sv, H, n, rp, r, tx, len) c (fX8_bay N Z 8 x y M) (fX9_bay N Z 116 x y) (fun k => if k = 1 then IOO else IAE) := by
  have hS : CS M (A, sv, H, n, rp, r, tx, len) := h
  have wS : WS c (A, sv, H, n, rp, r, tx, len) := w
  have h1 := w.1.1
  have C := hC
  obtain ⟨o8, ⟨r0, r1, r2, r4, r5, r6, r7, r8, r9, r10⟩, ⟨p9, -⟩, -, y77, -⟩ := hC
  have hM' := hM
  obtain ⟨o1, ⟨m0, -⟩, ⟨a4, a5, a6⟩, -⟩ := hM'
  rcases place_cases (N := N) C hM w.1 x with ⟨p, rfl, hp⟩ | ⟨e1, e2⟩
  · rcases in_cases y (lo := 0) (hi := 5) (by omega) (by omega) with ⟨v, rfl, g1, g2⟩ | ⟨e3, e4⟩
    · have mk : ∀ u, (∀ M7, RowAt M7 117 A → FarR M7 A → isD A (aD A) → (if nI v = nI 0 then bnd2 (fX9_high N Z 116 (nI p) M7) (fun r9 M9 => some (r9, M9)) else if nI v = nI 1 then bnd2 (fX9_deckSet N Z 116 (nI p) (0 : Int32) M7) (fun r11 M11 => some (r11, M11)) else if nI v = nI 2 then bnd1 (Z.2.2.2 116 0) (fun c13 => ck (okI Z c13) (ck (inB ((91 : Int32) + nI p) (Z.2.2.1 c13)) (some ((M7.1 c13 (((91 : Int32) + nI p)).toNatClampNeg), M7)))) else if nI v = nI 3 then bnd1 (Z.2.2.2 116 0) (fun c17 => ck (okI Z c17) (ck (inB ((101 : Int32) + nI p) (Z.2.2.1 c17)) (some ((M7.1 c17 (((101 : Int32) + nI p)).toNatClampNeg), M7)))) else if nI v = nI 4 then bnd2 (fX9_bracedSet N Z 116 (nI p) M7) (fun r21 M21 => some (r21, M21)) else bnd2 (fX9_deckSet N Z 116 (nI p) (1 : Int32) M7) (fun r22 M22 => some (r22, M22))) = some (u, M7)) → MK (A, sv, H, n, rp, r, tx, len) (.inl u) (A, sv, H, n, rp, r, tx, len) (fX9_bay N Z 116 (nI p) (nI v)) := fun u hu M1 hM1 => by
        have t := hM1.thr (nI 0)
        obtain ⟨M2, y1, y2, y3, y4⟩ := m_walks (N := N) hM w.1 hN t.1
        have R2 : RowAt M2 117 A := t.1.fr y2 not_onW117
        refine ⟨u, M2, ?_, mo_thr.trans (y2.mo (fun a j e => onW_in e)), ?_, fun v' e => by cases e; rfl, R2, t.2.fr y2 (fun a j e => onW_mr e)⟩
        · unfold fX9_bay
          rw [ck_t o1, place_m hM w.1 hp hM1.1, bnd2_some, if_neg (by decide), show fX9_in N Z (nI v) (0 : Int32) (5 : Int32) M1 = some (1, M1) from in_yes (lo := 0) (hi := 5) g1 g2 (by omega), bnd2_some, if_neg (by decide)]
          unfold fX9_bay_27
          rw [ck_t o1, ck_t o1, sI_same, if_pos (by decide), show fX9_walks N Z 116 (sI M1 116 9 (0 : Int32)) = some ((), M2) from y1, bnd2_some]
          exact hu M2 R2 y3 y4
        · rw [y2.1 116 9 (fun e => by unfold onW at e; omega), sI_same]; rfl
      rcases (show v = 0 ∨ v = 1 ∨ v = 2 ∨ v = 3 ∨ v = 4 ∨ v = 5 by omega) with rfl | rfl | rfl | rfl | rfl | rfl
      · refine OpOK.of_yes (nI (A (11 + p))) wS (CK.same hS ?_) (mk _ (fun M7 s1 s2 s3 => ?_))
        · unfold fX8_bay
          rw [ck_t o8, r0, bnd1_some, ck_t p9.1, place_k C w.1 hp h.1, bnd2_some, if_neg (by decide), if_pos rfl, p9.2.1, bnd1_some, k_at p9.2.2.2.2.2.2.1.2.1 (by rw [p9.2.2.2.2.2.2.1.2.2]; omega) (by rw [p9.2.2.2.2.2.2.1.2.2]; omega), bnd2_some, h.1.2.2.1 p (by omega)]
        · rw [if_pos rfl, m_high hM s1 (by omega), bnd2_some]
      · refine OpOK.of_yes (nI (mkS A 2 p)) wS (CK.same hS ?_) (mk _ (fun M7 s1 s2 s3 => ?_))
        · unfold fX8_bay
          rw [ck_t o8, r0, bnd1_some, ck_t p9.1, place_k C w.1 hp h.1, bnd2_some, if_neg (by decide), if_neg (by decide), if_pos rfl, show fX4_levelsWith N Z 9 (2 : Int32) (nI p) M = _ from k_levelsWith (k := 2) p9 h.1 (by omega) (by omega) (by omega), bnd2_some]
        · rw [if_neg (by decide), if_pos rfl, m_deckSet0 hN hM w.1 s1 (by omega), bnd2_some]; try rfl
      · refine OpOK.of_yes (nI (mkS A 3 p)) wS (CK.same hS ?_) (mk _ (fun M7 s1 s2 s3 => ?_))
        · unfold fX8_bay
          rw [ck_t o8, r0, bnd1_some, ck_t p9.1, place_k C w.1 hp h.1, bnd2_some, if_neg (by decide), if_neg (by decide), if_neg (by decide), if_pos rfl, show fX4_levelsWith N Z 9 (3 : Int32) (nI p) M = _ from k_levelsWith (k := 3) p9 h.1 (by omega) (by omega) (by omega), bnd2_some]
        · rw [if_neg (by decide), if_neg (by decide), if_pos rfl, m0, bnd1_some, ck_t a5, i_91, nI_add, a6, ck_t (by rw [i_inB (by omega)]; exact decide_eq_true (by omega)), i_cl (by omega), s1 _ (by omega)]; try rfl
      · refine OpOK.of_yes (nI (mkS A 5 p)) wS (CK.same hS ?_) (mk _ (fun M7 s1 s2 s3 => ?_))
        · unfold fX8_bay
          rw [ck_t o8, r0, bnd1_some, ck_t p9.1, place_k C w.1 hp h.1, bnd2_some, if_neg (by decide), if_neg (by decide), if_neg (by decide), if_neg (by decide), if_pos rfl, show fX4_levelsWith N Z 9 (5 : Int32) (nI p) M = _ from k_levelsWith (k := 5) p9 h.1 (by omega) (by omega) (by omega), bnd2_some]
        · rw [if_neg (by decide), if_neg (by decide), if_neg (by decide), if_pos rfl, m0, bnd1_some, ck_t a5, i_101, nI_add, a6, ck_t (by rw [i_inB (by omega)]; exact decide_eq_true (by omega)), i_cl (by omega), s1 _ (by omega)]; try rfl
      · refine OpOK.of_yes (nI (aBs A p)) wS (CK.same hS ?_) (mk _ (fun M7 s1 s2 s3 => ?_))
        · unfold fX8_bay
          rw [ck_t o8, r0, bnd1_some, ck_t p9.1, place_k C w.1 hp h.1, bnd2_some, if_neg (by decide), if_neg (by decide), if_neg (by decide), if_neg (by decide), if_neg (by decide), if_pos rfl, k_braced hN p9 h.1 w.1 hp, bnd2_some]
        · rw [if_neg (by decide), if_neg (by decide), if_neg (by decide), if_neg (by decide), if_pos rfl, m_bracedSet hN hM w.1 s1 hp, bnd2_some]
      · obtain ⟨M1, x1, x2, x3, -⟩ := w_explore (N := N) y77 p9 (by omega) w.1 hN h.1
        refine OpOK.of_yes (nI (rB A p)) wS ⟨M1, ?_, x2.cl (fun a e => onSc_cl (inW_sc e)), h.sc x2.fr (fun a j e => inW_sc e)⟩ (mk _ (fun M7 s1 s2 s3 => ?_))
        · unfold fX8_bay
          rw [ck_t o8, r0, bnd1_some, ck_t p9.1, place_k C w.1 hp h.1, bnd2_some, if_neg (by decide), if_neg (by decide), if_neg (by decide), if_neg (by decide), if_neg (by decide), if_neg (by decide), if_pos rfl, r5, bnd1_some, ck_t y77.1, x1, bnd2_some, y77.2.1, bnd1_some, k_at y77.2.2.2.2.2.1.2.1 (by rw [y77.2.2.2.2.2.1.2.2]; omega) (by rw [y77.2.2.2.2.2.1.2.2]; omega), bnd2_some, x3.1 p (by omega)]; try rfl
        · rw [if_neg (by decide), if_neg (by decide), if_neg (by decide), if_neg (by decide), if_neg (by decide), m_deckSet1 hN hM w.1 s1 s2 s3 (by omega), bnd2_some]
    · have z : ∀ j, j < 6 → ¬ y = nI j := fun j hj e => by
        rw [e, i_lt (by omega) (by omega), i_le (by omega) (by omega)] at e4; omega
      refine OpOK.of_no (k := 2) ⟨by omega, by omega, by decide +kernel⟩ wS (CK.bad hS ?_) (MK.bad (fun M1 hM1 => ?_))
      · unfold fX8_bay
        rw [ck_t o8, r0, bnd1_some, ck_t p9.1, place_k C w.1 hp h.1, bnd2_some, if_neg (by decide), if_neg (z 0 (by omega)), if_neg (z 1 (by omega)), if_neg (z 2 (by omega)), if_neg (z 3 (by omega)), if_neg (z 4 (by omega)), if_neg (z 5 (by omega))]; try rfl
      · unfold fX9_bay
        rw [ck_t o1, place_m hM w.1 hp hM1.1, bnd2_some, if_neg (by decide), show fX9_in N Z y (0 : Int32) (5 : Int32) M1 = some (0, M1) from e3 N Z M1, bnd2_some, if_pos rfl]
        unfold fX9_bay_27
        rw [ck_t o1, ck_t o1, sI_same, if_neg (by decide)]; try rfl
  · refine OpOK.of_no (k := 1) ⟨by omega, by omega, by decide +kernel⟩ wS (CK.bad hS ?_) (MK.bad (fun M1 hM1 => ?_))
    · unfold fX8_bay
      rw [ck_t o8, r0, bnd1_some, ck_t p9.1, e1 M h.1, bnd2_some, if_pos rfl]; try rfl
    · unfold fX9_bay
      rw [ck_t o1, e2 M1 hM1.1, bnd2_some, if_pos rfl]
      unfold fX9_bay_27
      rw [ck_t o1, ck_t o1, sI_same, if_neg (by decide)]; try rfl
theorem op_post (hN : 5000 ≤ N) (hC : ClsAt Z) (hM : ModAt Z) (w : WFs c A sv H n) (h : CI M A sv H n rp r tx len) (x y : Int32) : OpOK M (A, sv, H, n, rp, r, tx, len) c (fX8_post N Z 8 x y M) (fX9_post N Z 116 x y) (fun k => if k = 1 then IOO else IAE) := by
  have hS : CS M (A, sv, H, n, rp, r, tx, len) := h
  have wS : WS c (A, sv, H, n, rp, r, tx, len) := w
  have h1 := w.1.1
  have C := hC
  obtain ⟨o8, ⟨r0, r1, r2, r4, r5, r6, r7, r8, r9, r10⟩, ⟨p9, -⟩, -⟩ := hC
  have hM' := hM
  obtain ⟨o1, ⟨m0, -⟩, ⟨a4, a5, a6⟩, -⟩ := hM'
  rcases place_cases (N := N) C hM w.1 x with ⟨p, rfl, hp⟩ | ⟨e1, e2⟩
  · rcases in_cases y (lo := 0) (hi := 4) (by omega) (by omega) with ⟨v, rfl, g1, g2⟩ | ⟨e3, e4⟩
    · have mk : ∀ u, (∀ M7, RowAt M7 117 A → (if nI v = nI 0 then bnd2 (fX9_postHigh N Z 116 (nI p) M7) (fun r8 M8 => some (r8, M8)) else if nI v = nI 1 then bnd1 (Z.2.2.2 116 0) (fun c10 => ck (okI Z c10) (ck (inB ((111 : Int32) + nI p) (Z.2.2.1 c10)) (some ((M7.1 c10 (((111 : Int32) + nI p)).toNatClampNeg), M7)))) else if nI v = nI 2 then bnd2 (fX9_loadOf N Z 116 (nI p) M7) (fun r14 M14 => some (r14, M14)) else if nI v = (3 : Int32) then bnd2 (fX9_tiesBy N Z 116 (nI p) (1 : Int32) M7) (fun r16 M16 => some (r16, M16)) else bnd2 (fX9_tiesBy N Z 116 (nI p) (0 : Int32) M7) (fun r17 M17 => some (r17, M17))) = some (u, M7)) → MK (A, sv, H, n, rp, r, tx, len) (.inl u) (A, sv, H, n, rp, r, tx, len) (fX9_post N Z 116 (nI p) (nI v)) := fun u hu => MK.same (fun M1 hM1 => by
        have t := hM1.thr (nI 0)
        unfold fX9_post
        rw [ck_t o1, place_m hM w.1 hp hM1.1, bnd2_some, if_neg (by decide), show fX9_in N Z (nI v) (0 : Int32) (4 : Int32) M1 = some (1, M1) from in_yes (lo := 0) (hi := 4) g1 g2 (by omega), bnd2_some, if_neg (by decide)]
        unfold fX9_post_27
        rw [ck_t o1, ck_t o1, sI_same, if_pos (by decide)]
        exact hu _ t.1)
      rcases (show v = 0 ∨ v = 1 ∨ v = 2 ∨ v = 3 ∨ v = 4 by omega) with rfl | rfl | rfl | rfl | rfl
      · refine OpOK.of_yes (nI (aPH A p)) wS (CK.same hS ?_) (mk _ (fun M7 s1 => ?_))
        · unfold fX8_post
          rw [ck_t o8, r0, bnd1_some, ck_t p9.1, place_k C w.1 hp h.1, bnd2_some, if_neg (by decide), if_pos rfl, k_postHeight p9 h.1 w.1 hp, bnd2_some]
        · rw [if_pos rfl, m_postHigh hM s1 w.1 hp, bnd2_some]
      · refine OpOK.of_yes (nI (mkS A 4 p)) wS (CK.same hS ?_) (mk _ (fun M7 s1 => ?_))
        · unfold fX8_post
          rw [ck_t o8, r0, bnd1_some, ck_t p9.1, place_k C w.1 hp h.1, bnd2_some, if_neg (by decide), if_neg (by decide), if_pos rfl, show fX4_levelsWith N Z 9 (4 : Int32) (nI p) M = _ from k_levelsWith (k := 4) p9 h.1 (by omega) (by omega) (by omega), bnd2_some]
        · rw [if_neg (by decide), if_pos rfl, m0, bnd1_some, ck_t a5, i_111, nI_add, a6, ck_t (by rw [i_inB (by omega)]; exact decide_eq_true (by omega)), i_cl (by omega), s1 _ (by omega)]; try rfl
      · refine OpOK.of_yes (nI (aLoad A p)) wS (CK.same hS ?_) (mk _ (fun M7 s1 => ?_))
        · unfold fX8_post
          rw [ck_t o8, r0, bnd1_some, ck_t p9.1, place_k C w.1 hp h.1, bnd2_some, if_neg (by decide), if_neg (by decide), if_neg (by decide), if_pos rfl, k_postLoad hN p9 h.1 w.1 hp, bnd2_some]
        · rw [if_neg (by decide), if_neg (by decide), if_pos rfl, m_loadOf hN hM s1 w.1 hp, bnd2_some]
      · refine OpOK.of_yes (nI (neF (A (111 + p)) (A 1) (A 2) (aPH A p) (aPH A p) 1 0)) wS (CK.same hS ?_) (mk _ (fun M7 s1 => ?_))
        · unfold fX8_post
          rw [ck_t o8, r0, bnd1_some, ck_t p9.1, place_k C w.1 hp h.1, bnd2_some, if_neg (by decide), if_neg (by decide), if_neg (by decide), if_neg (by decide), if_pos rfl, k_needed hN p9 h.1 w.1 hp, bnd2_some]
        · rw [if_neg (by decide), if_neg (by decide), if_neg (by decide), if_pos (show nI 3 = (3 : Int32) from rfl), m_tiesBy1 hN hM w.1 s1 hp, bnd2_some]
      · refine OpOK.of_yes (nI (moF (A (111 + p)) (A 1) (A 2) (aPH A p) (aPH A p) 1 0)) wS (CK.same hS ?_) (mk _ (fun M7 s1 => ?_))
        · unfold fX8_post
          rw [ck_t o8, r0, bnd1_some, ck_t p9.1, place_k C w.1 hp h.1, bnd2_some, if_neg (by decide), if_neg (by decide), if_neg (by decide), if_neg (by decide), if_neg (by decide), if_pos rfl, k_more hN p9 h.1 w.1 hp, bnd2_some]
        · rw [if_neg (by decide), if_neg (by decide), if_neg (by decide), if_neg (by decide), m_tiesBy0 hN hM w.1 s1 hp, bnd2_some]
    · have z : ∀ j, j < 5 → ¬ y = nI j := fun j hj e => by
        rw [e, i_lt (by omega) (by omega), i_le (by omega) (by omega)] at e4; omega
      refine OpOK.of_no (k := 2) ⟨by omega, by omega, by decide +kernel⟩ wS (CK.bad hS ?_) (MK.bad (fun M1 hM1 => ?_))
      · unfold fX8_post
        rw [ck_t o8, r0, bnd1_some, ck_t p9.1, place_k C w.1 hp h.1, bnd2_some, if_neg (by decide), if_neg (z 0 (by omega)), if_neg (z 1 (by omega)), if_neg (z 2 (by omega)), if_neg (z 3 (by omega)), if_neg (z 4 (by omega))]; try rfl
      · unfold fX9_post
        rw [ck_t o1, place_m hM w.1 hp hM1.1, bnd2_some, if_neg (by decide), show fX9_in N Z y (0 : Int32) (4 : Int32) M1 = some (0, M1) from e3 N Z M1, bnd2_some, if_pos rfl]
        unfold fX9_post_27
        rw [ck_t o1, ck_t o1, sI_same, if_neg (by decide)]; try rfl
  · refine OpOK.of_no (k := 1) ⟨by omega, by omega, by decide +kernel⟩ wS (CK.bad hS ?_) (MK.bad (fun M1 hM1 => ?_))
    · unfold fX8_post
      rw [ck_t o8, r0, bnd1_some, ck_t p9.1, e1 M h.1, bnd2_some, if_pos rfl]; try rfl
    · unfold fX9_post
      rw [ck_t o1, e2 M1 hM1.1, bnd2_some, if_pos rfl]
      unfold fX9_post_27
      rw [ck_t o1, ck_t o1, sI_same, if_neg (by decide)]; try rfl
theorem op_load (hN : 5000 ≤ N) (hC : ClsAt Z) (hM : ModAt Z) (w : WFs c A sv H n) (h : CI M A sv H n rp r tx len) (x y : Int32) : OpOK M (A, sv, H, n, rp, r, tx, len) c (fX8_load N Z 8 x y M) (fX9_load N Z 116 x y) (fun k => if k = 1 then IOO else NSE) := by
  have hS : CS M (A, sv, H, n, rp, r, tx, len) := h
  have wS : WS c (A, sv, H, n, rp, r, tx, len) := w
  have h1 := w.1.1
  have C := hC
  obtain ⟨o8, ⟨r0, r1, r2, r4, r5, r6, r7, r8, r9, r10⟩, ⟨p9, -⟩, -⟩ := hC
  have o1 := hM.1
  rcases place_cases (N := N) C hM w.1 x with ⟨p, rfl, hp⟩ | ⟨e1, e2⟩
  · have bad : (fX4_has N Z 9 (2 : Int32) (nI p) y M = some (0, M)) → (∀ M1, MS M1 (A, sv, H, n, rp, r, tx, len) → fX9_deckAt N Z 116 (nI p) y M1 = some (0, M1)) → OpOK M (A, sv, H, n, rp, r, tx, len) c (fX8_load N Z 8 (nI p) y M) (fX9_load N Z 116 (nI p) y) (fun k => if k = 1 then IOO else NSE) := fun x1 x2 => by
      refine OpOK.of_no (k := 2) ⟨by omega, by omega, by decide +kernel⟩ wS (CK.bad hS ?_) (MK.bad (fun M1 hM1 => ?_))
      · unfold fX8_load
        rw [ck_t o8, r0, bnd1_some, ck_t p9.1, place_k C w.1 hp h.1, bnd2_some, if_neg (by decide), x1, bnd2_some, if_pos rfl]; try rfl
      · unfold fX9_load
        rw [ck_t o1, place_m hM w.1 hp hM1.1, bnd2_some, if_neg (by decide), x2 M1 hM1, bnd2_some, if_pos (by decide), sI_same, if_neg (by decide)]; try rfl
    rcases i32_cases y with hy | ⟨l, hl, rfl⟩
    · have hy1 : y < (1 : Int32) := by
        rw [Int32.lt_iff_toInt_lt] at hy ⊢
        have a : (0 : Int32).toInt = 0 := rfl
        have b : (1 : Int32).toInt = 1 := rfl
        omega
      refine bad (by unfold fX4_has; rw [if_pos hy1]) (fun M1 _ => ?_)
      unfold fX9_deckAt fX9_in
      rw [if_pos hy1, bnd2_some, if_pos rfl]
    · have hh := k_has (N := N) (k := 2) (p := p) p9 h.1 w.1 (by omega) (by omega) (by omega) l hl
      have hd := fun M1 (hM1 : MS M1 (A, sv, H, n, rp, r, tx, len)) => m_deckAt (N := N) (M := M1) hM hM1.1 (b := p) (by omega) hl
      rw [dk_has] at hh
      by_cases q : 0 < dk A p l
      · rw [decide_eq_true q, if_pos rfl] at hh
        have hl6 : 1 ≤ l ∧ l ≤ 6 := by
          refine Classical.byContradiction (fun z => ?_)
          unfold dk at q; rw [if_neg z] at q; omega
        have hdk : dk A p l = A (21 + (p * 7 + l)) := by unfold dk; rw [if_pos hl6, show 21 + 7 * p + l = 21 + (p * 7 + l) by omega]
        have hk := dk_le (l := l) w.1 (show p < 10 by omega)
        refine OpOK.of_yes (nI (dk A p l)) wS (CK.same hS ?_) (MK.same (fun M1 hM1 => ?_))
        · unfold fX8_load
          rw [ck_t o8, r0, bnd1_some, ck_t p9.1, place_k C w.1 hp h.1, bnd2_some, if_neg (by decide), show fX4_has N Z 9 (2 : Int32) (nI p) (nI l) M = some (1, M) from hh, bnd2_some, if_neg (by decide), p9.2.2.2.1, bnd1_some, i_7, pk_mul, nI_add, k_at p9.2.2.2.2.2.2.2.2.1.2.1 (by rw [p9.2.2.2.2.2.2.2.2.1.2.2]; omega) (by rw [p9.2.2.2.2.2.2.2.2.1.2.2]; omega), bnd2_some, h.1.2.2.2.2.2.1 _ (by omega), hdk]
        · have d1 := hd M1 hM1
          have d2 := hd _ (hM1.thr (nI 0))
          unfold fX9_load
          rw [ck_t o1, place_m hM w.1 hp hM1.1, bnd2_some, if_neg (by decide), d1, bnd2_some, if_neg (not_le0 q (by omega)), sI_same, if_pos (by decide), show fX9_deckAt N Z 116 (nI p) (nI l) (sI M1 116 9 (0 : Int32)) = some (nI (dk A p l), sI M1 116 9 (nI 0)) from d2, bnd2_some]
      · rw [decide_eq_false q, if_neg (by decide)] at hh
        have z : dk A p l = 0 := by omega
        exact bad hh (fun M1 hM1 => by rw [hd M1 hM1, z]; rfl)
  · refine OpOK.of_no (k := 1) ⟨by omega, by omega, by decide +kernel⟩ wS (CK.bad hS ?_) (MK.bad (fun M1 hM1 => ?_))
    · unfold fX8_load
      rw [ck_t o8, r0, bnd1_some, ck_t p9.1, e1 M h.1, bnd2_some, if_pos rfl]; try rfl
    · unfold fX9_load
      rw [ck_t o1, e2 M1 hM1.1, bnd2_some, if_pos rfl, sI_same, if_neg (by decide)]; try rfl
theorem op_steps (hN : 5000 ≤ N) (hC : ClsAt Z) (hM : ModAt Z) (w : WFs c A sv H n) (h : CI M A sv H n rp r tx len) (x y : Int32) : OpOK M (A, sv, H, n, rp, r, tx, len) c (fX8_steps N Z 8 x y M) (fX9_steps N Z 116 x y) (fun k => if k = 1 then IOO else NSE) := by
  have hS : CS M (A, sv, H, n, rp, r, tx, len) := h
  have wS : WS c (A, sv, H, n, rp, r, tx, len) := w
  have h1 := w.1.1
  have C := hC
  obtain ⟨o8, ⟨r0, r1, r2, r4, r5, r6, r7, r8, r9, r10⟩, ⟨p9, -⟩, -, y77, -⟩ := hC
  have hM' := hM
  obtain ⟨o1, ⟨-, -, -, -, -, -, m11, -⟩, -, -, -, -, -, -, ⟨a4, a5, a6⟩, -⟩ := hM'
  have st : ∀ k res, (∀ M2, RowAt M2 117 A → FarR M2 A → ∃ M3, (bnd2 (fX9_isPlace N Z 116 x M2) (fun r3 M3 => if r3 = 0 then fX9_steps_31 N Z 116 x y (1 : Int32) 116 M3 else bnd2 (fX9_isReached N Z 116 x y M3) (fun r11 M11 => if r11 = 0 then fX9_steps_31 N Z 116 x y (2 : Int32) 116 M11 else fX9_steps_31 N Z 116 x y (0 : Int32) 116 M11))) = some (res, sI M2 116 9 (nI k)) ∧ M3 = M2) → ∀ M1, MS M1 (A, sv, H, n, rp, r, tx, len) → ∃ M2, fX9_steps N Z 116 x y M1 = some (res, M2) ∧ Mo M1 M2 ∧ M2.1 116 9 = nI k ∧ MS M2 (A, sv, H, n, rp, r, tx, len) := fun k res hu M1 hM1 => by
    obtain ⟨M2, y1, y2, y3, y4⟩ := m_walks (N := N) hM w.1 hN hM1.1
    have R2 : MS M2 (A, sv, H, n, rp, r, tx, len) := ⟨hM1.1.fr y2 not_onW117, hM1.2.fr y2 (fun a j e => onW_mr e)⟩
    obtain ⟨-, z1, -⟩ := hu M2 R2.1 y3
    refine ⟨sI M2 116 9 (nI k), ?_, (y2.mo (fun a j e => onW_in e)).trans mo_thr, sI_same _ _ _ _, R2.thr _⟩
    unfold fX9_steps
    rw [ck_t o1, y1, bnd2_some]
    exact z1
  have no31 : ∀ M2 (k : Nat), (k = 1 ∨ k = 2) → fX9_steps_31 N Z 116 x y (nI k) 116 M2 = some (0, sI M2 116 9 (nI k)) := fun M2 k hk => by
    unfold fX9_steps_31
    rw [ck_t o1, ck_t o1, sI_same, if_neg (not_le0 (by omega) (by omega))]
  rcases place_cases (N := N) C hM w.1 x with ⟨p, rfl, hp⟩ | ⟨e1, e2⟩
  · obtain ⟨M1, x1, x2, x3, -⟩ := w_explore (N := N) y77 p9 (by omega) w.1 hN h.1
    have I1 := h.sc x2.fr (fun a j e => inW_sc e)
    have cl1 : Cl M M1 := x2.cl (fun a e => onSc_cl (inW_sc e))
    have hd : ∀ res, (bnd2 (fX6_isReached N Z 77 (nI p) y M1) (fun r9 M9 => if r9 = 0 then some (.inr "java/util/NoSuchElementException", sT M9) else bnd1 (Z.2.2.2 77 1) (fun c11 => bnd2 (fX8_at N Z c11 ((nI p * (7 : Int32)) + y) M9) (fun r12 M12 => some (.inl r12, M12))))) = some res → fX8_steps N Z 8 (nI p) y M = some res := fun res hh => by
      unfold fX8_steps
      rw [ck_t o8, r0, bnd1_some, ck_t p9.1, place_k C w.1 hp h.1, bnd2_some, if_neg (by decide), r5, bnd1_some, ck_t y77.1, x1, bnd2_some]
      exact hh
    have bad : (fX6_isReached N Z 77 (nI p) y M1 = some (0, M1)) → (∀ M2, FarR M2 A → fX9_isReached N Z 116 (nI p) y M2 = some (0, M2)) → OpOK M (A, sv, H, n, rp, r, tx, len) c (fX8_steps N Z 8 (nI p) y M) (fX9_steps N Z 116 (nI p) y) (fun k => if k = 1 then IOO else NSE) := fun q1 q2 => by
      refine OpOK.of_no (k := 2) ⟨by omega, by omega, by decide +kernel⟩ wS (CK.bad' I1 cl1 (hd _ (by rw [q1, bnd2_some, if_pos rfl]; try rfl))) (fun M3 hM3 => ?_)
      obtain ⟨M4, z1, z2, z3, z4⟩ := st 2 0 (fun M2 s1 s2 => ⟨M2, by rw [place_m hM w.1 hp s1, bnd2_some, if_neg (by decide), q2 M2 s2, bnd2_some, if_pos rfl]; exact no31 M2 2 (Or.inr rfl), rfl⟩) M3 hM3
      exact ⟨0, M4, z1, z2, z3, fun v e => (by cases e), z4⟩
    rcases i32_cases y with hy | ⟨l, hl, rfl⟩
    · have hy1 : y < (1 : Int32) := by
        rw [Int32.lt_iff_toInt_lt] at hy ⊢
        have a : (0 : Int32).toInt = 0 := rfl
        have b : (1 : Int32).toInt = 1 := rfl
        omega
      refine bad (by unfold fX6_isReached; rw [if_pos hy1]) (fun M2 _ => ?_)
      unfold fX9_isReached fX9_in
      rw [if_pos hy1, bnd2_some, if_pos rfl]
    · have q1 := w_reached (N := N) y77 x3 (b := p) (l := l) (by omega) hl
      have q2 := fun M2 (s : FarR M2 A) => m_reached (N := N) hM s (b := p) (l := l) (by omega) hl
      by_cases q : rch A p l = true
      · rw [if_pos q] at q1
        have q' := q
        unfold rch at q'
        simp only [Bool.and_eq_true, decide_eq_true_eq] at q'
        refine OpOK.of_yes (nI (aD A (7 * p + l))) wS ⟨M1, hd _ ?_, cl1, I1⟩ (fun M3 hM3 => ?_)
        · rw [q1, bnd2_some, if_neg (by decide), y77.2.2.1, bnd1_some, i_7, pk_mul, nI_add, Nat.mul_comm p 7, k_at y77.2.2.2.2.2.2.1.2.1 (by rw [y77.2.2.2.2.2.2.1.2.2]; omega) (by rw [y77.2.2.2.2.2.2.1.2.2]; omega), bnd2_some, x3.2 p l (by omega) (by omega) q]; try rfl
        · obtain ⟨M4, z1, z2, z3, z4⟩ := st 0 (nI (aD A (7 * p + l))) (fun M2 s1 s2 => ⟨M2, by
            rw [place_m hM w.1 hp s1, bnd2_some, if_neg (by decide), q2 M2 s2, if_pos q, bnd2_some, if_neg (by decide)]
            unfold fX9_steps_31
            rw [ck_t o1, ck_t o1, sI_same, if_pos (by decide), m11, bnd1_some, ck_t a5, i_7, pk_mul, nI_add, a6, ck_t (by rw [i_inB (by omega)]; exact decide_eq_true (by omega)), i_cl (by omega), sI_ne _ _ (by omega), s2.1 p l (by omega) (by omega), fI, if_neg q'.2]; try rfl, rfl⟩) M3 hM3
          exact ⟨_, M4, z1, z2, z3, fun v e => by cases e; rfl, z4⟩
      · rw [if_neg q] at q1
        exact bad q1 (fun M2 s => by rw [q2 M2 s, if_neg q])
  · refine OpOK.of_no (k := 1) ⟨by omega, by omega, by decide +kernel⟩ wS (CK.bad hS ?_) (fun M3 hM3 => ?_)
    · unfold fX8_steps
      rw [ck_t o8, r0, bnd1_some, ck_t p9.1, e1 M h.1, bnd2_some, if_pos rfl]; try rfl
    · obtain ⟨M4, z1, z2, z3, z4⟩ := st 1 0 (fun M2 s1 s2 => ⟨M2, by rw [e2 M2 s1, bnd2_some, if_pos rfl]; exact no31 M2 1 (Or.inl rfl), rfl⟩) M3 hM3
      exact ⟨0, M4, z1, z2, z3, fun v e => (by cases e), z4⟩
end OL
