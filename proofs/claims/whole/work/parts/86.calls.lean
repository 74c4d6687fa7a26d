/-! ===== LAYER 3: the law: its calls ===== -/
section LW
variable {N L c i : Nat} {xs : Nat → Int32} {Z : mZ} {M : mM}
theorem at_p {i : Nat} (k : Nat) : nI i + nI k = nI (i + k) := nI_add i k
theorem law_168 (hN : 5000 ≤ N) (hZ : LawZ Z L) (h : LI xs c Z M) (hc : c + 300 ≤ 1000000) (hL : L ≤ 2560) (hi : i + 5 ≤ L) (K : Nat → Nat → Nat → Nat → Nat → Int32 → mM → Option (Int32 × mM)) : ∃ M16, fL_law_168 N Z K 0 8 116 129 130 (nI i) M = K 0 8 116 129 130 (nI i + (5 : Int32)) M16 ∧ LI xs (c + 27) Z M16 := by
  obtain ⟨hx, hs, ⟨A, sv, H, n, rp, r, tx, len⟩, cs, ms, ws⟩ := h
  have hC := hZ.1
  have hM := hZ.2.1
  have lZ := hZ.2.2.2.2
  have hop := op_start (N := N) hN hC hM hs ws (by omega) cs (xs (i + 1))
  obtain ⟨k, M13, e13, x13, k3, b, M16, e16, t16, d16, L16⟩ := law_call (N := N) (show fL_start N Z 8 (xs (i + 1)) 129 M = _ from rfl) hZ hx hs ms hop (cat_1 rfl rfl rfl)
  refine ⟨M16, ?_, L16.mono (by omega) (by omega)⟩
  unfold fL_law_168
  have p1 : nI i + (1 : Int32) = nI (i + 1) := nI_add i 1
  rw [ck_t (okI_lo (by omega)), p1, ck_t (by rw [lZ, i_inB (by omega)]; exact decide_eq_true (by omega)), i_cl (show i + 1 < 2147483648 by omega), hx (i + 1), e13, bnd2_some, ck_t hM.1, x13 (i + 1), e16, bnd2_some, t16, bnd2_some, if_pos rfl]
  by_cases k0 : k = 0
  · rw [if_pos (by rw [k0]; rfl), ck_t hZ.2.2.1.1, ck_t (by rw [hZ.2.2.1.2]; decide), if_pos (d16 k0)]
  · rw [if_neg (by rw [i_0, i_eq (by omega) (by omega)]; exact k0)]
theorem law_224 (hN : 5000 ≤ N) (hZ : LawZ Z L) (h : LI xs c Z M) (hc : c + 300 ≤ 1000000) (hL : L ≤ 2560) (hi : i + 5 ≤ L) (K : Nat → Nat → Nat → Nat → Nat → Int32 → mM → Option (Int32 × mM)) : ∃ M16, fL_law_224 N Z K 0 8 116 129 130 (nI i) M = K 0 8 116 129 130 (nI i + (5 : Int32)) M16 ∧ LI xs (c + 27) Z M16 := by
  obtain ⟨hx, hs, ⟨A, sv, H, n, rp, r, tx, len⟩, cs, ms, ws⟩ := h
  have hC := hZ.1
  have hM := hZ.2.1
  have lZ := hZ.2.2.2.2
  have hop := op_set (N := N) hN hC hM hs ws (by omega) cs (xs (i + 1)) (xs (i + 2))
  obtain ⟨k, M13, e13, x13, k3, b, M16, e16, t16, d16, L16⟩ := law_call (N := N) (show fL_set N Z 8 (xs (i + 1)) (xs (i + 2)) 129 M = _ from rfl) hZ hx hs ms hop (cat_2 (by decide +kernel) rfl rfl rfl)
  refine ⟨M16, ?_, L16.mono (by omega) (by omega)⟩
  unfold fL_law_224
  have p1 : nI i + (1 : Int32) = nI (i + 1) := nI_add i 1
  have p2 : nI i + (2 : Int32) = nI (i + 2) := nI_add i 2
  rw [ck_t (okI_lo (by omega)), p1, p2, ck_t (by rw [lZ, i_inB (by omega)]; exact decide_eq_true (by omega)), ck_t (by rw [lZ, i_inB (by omega)]; exact decide_eq_true (by omega)), i_cl (show i + 1 < 2147483648 by omega), i_cl (show i + 2 < 2147483648 by omega), hx (i + 1), hx (i + 2), e13, bnd2_some, ck_t hM.1, x13 (i + 1), x13 (i + 2), e16, bnd2_some, t16, bnd2_some, if_pos rfl]
  by_cases k0 : k = 0
  · rw [if_pos (by rw [k0]; rfl), ck_t hZ.2.2.1.1, ck_t (by rw [hZ.2.2.1.2]; decide), if_pos (d16 k0)]
  · rw [if_neg (by rw [i_0, i_eq (by omega) (by omega)]; exact k0)]
theorem law_292 (hN : 5000 ≤ N) (hZ : LawZ Z L) (h : LI xs c Z M) (hc : c + 300 ≤ 1000000) (hL : L ≤ 2560) (hi : i + 5 ≤ L) (K : Nat → Nat → Nat → Nat → Nat → Int32 → mM → Option (Int32 × mM)) : ∃ M16, fL_law_292 N Z K 0 8 116 129 130 (nI i) M = K 0 8 116 129 130 (nI i + (5 : Int32)) M16 ∧ LI xs (c + 27) Z M16 := by
  obtain ⟨hx, hs, ⟨A, sv, H, n, rp, r, tx, len⟩, cs, ms, ws⟩ := h
  have hC := hZ.1
  have hM := hZ.2.1
  have lZ := hZ.2.2.2.2
  have hop := op_stock (N := N) hN hC hM ws (by omega) cs (xs (i + 1)) (xs (i + 2))
  obtain ⟨k, M13, e13, x13, k3, b, M16, e16, t16, d16, L16⟩ := law_call (N := N) (show fL_stock N Z 8 (xs (i + 1)) (xs (i + 2)) 129 M = _ from rfl) hZ hx hs ms hop (cat_2 (by decide +kernel) rfl rfl rfl)
  refine ⟨M16, ?_, L16.mono (by omega) (by omega)⟩
  unfold fL_law_292
  have p1 : nI i + (1 : Int32) = nI (i + 1) := nI_add i 1
  have p2 : nI i + (2 : Int32) = nI (i + 2) := nI_add i 2
  rw [ck_t (okI_lo (by omega)), p1, p2, ck_t (by rw [lZ, i_inB (by omega)]; exact decide_eq_true (by omega)), ck_t (by rw [lZ, i_inB (by omega)]; exact decide_eq_true (by omega)), i_cl (show i + 1 < 2147483648 by omega), i_cl (show i + 2 < 2147483648 by omega), hx (i + 1), hx (i + 2), e13, bnd2_some, ck_t hM.1, x13 (i + 1), x13 (i + 2), e16, bnd2_some, t16, bnd2_some, if_pos rfl]
  by_cases k0 : k = 0
  · rw [if_pos (by rw [k0]; rfl), ck_t hZ.2.2.1.1, ck_t (by rw [hZ.2.2.1.2]; decide), if_pos (d16 k0)]
  · rw [if_neg (by rw [i_0, i_eq (by omega) (by omega)]; exact k0)]
theorem law_360 (hN : 5000 ≤ N) (hZ : LawZ Z L) (h : LI xs c Z M) (hc : c + 300 ≤ 1000000) (hL : L ≤ 2560) (hi : i + 5 ≤ L) (K : Nat → Nat → Nat → Nat → Nat → Int32 → mM → Option (Int32 × mM)) : ∃ M16, fL_law_360 N Z K 0 8 116 129 130 (nI i) M = K 0 8 116 129 130 (nI i + (5 : Int32)) M16 ∧ LI xs (c + 27) Z M16 := by
  obtain ⟨hx, hs, ⟨A, sv, H, n, rp, r, tx, len⟩, cs, ms, ws⟩ := h
  have hC := hZ.1
  have hM := hZ.2.1
  have lZ := hZ.2.2.2.2
  have hop := op_erect (N := N) hN hC hM ws (by omega) cs (xs (i + 1))
  obtain ⟨k, M13, e13, x13, k3, b, M16, e16, t16, d16, L16⟩ := law_call (N := N) (show fL_erect N Z 8 (xs (i + 1)) 129 M = _ from rfl) hZ hx hs ms hop (cat_2 (by decide +kernel) rfl rfl rfl)
  refine ⟨M16, ?_, L16.mono (by omega) (by omega)⟩
  unfold fL_law_360
  have p1 : nI i + (1 : Int32) = nI (i + 1) := nI_add i 1
  rw [ck_t (okI_lo (by omega)), p1, ck_t (by rw [lZ, i_inB (by omega)]; exact decide_eq_true (by omega)), i_cl (show i + 1 < 2147483648 by omega), hx (i + 1), e13, bnd2_some, ck_t hM.1, x13 (i + 1), e16, bnd2_some, t16, bnd2_some, if_pos rfl]
  by_cases k0 : k = 0
  · rw [if_pos (by rw [k0]; rfl), ck_t hZ.2.2.1.1, ck_t (by rw [hZ.2.2.1.2]; decide), if_pos (d16 k0)]
  · rw [if_neg (by rw [i_0, i_eq (by omega) (by omega)]; exact k0)]
theorem law_416 (hN : 5000 ≤ N) (hZ : LawZ Z L) (h : LI xs c Z M) (hc : c + 300 ≤ 1000000) (hL : L ≤ 2560) (hi : i + 5 ≤ L) (K : Nat → Nat → Nat → Nat → Nat → Int32 → mM → Option (Int32 × mM)) : ∃ M16, fL_law_416 N Z K 0 8 116 129 130 (nI i) M = K 0 8 116 129 130 (nI i + (5 : Int32)) M16 ∧ LI xs (c + 27) Z M16 := by
  obtain ⟨hx, hs, ⟨A, sv, H, n, rp, r, tx, len⟩, cs, ms, ws⟩ := h
  have hC := hZ.1
  have hM := hZ.2.1
  have lZ := hZ.2.2.2.2
  have hop := op_lower (N := N) hN hC hM ws (by omega) cs (xs (i + 1))
  obtain ⟨k, M13, e13, x13, k3, b, M16, e16, t16, d16, L16⟩ := law_call (N := N) (show fL_lower N Z 8 (xs (i + 1)) 129 M = _ from rfl) hZ hx hs ms hop (cat_2 (by decide +kernel) rfl rfl rfl)
  refine ⟨M16, ?_, L16.mono (by omega) (by omega)⟩
  unfold fL_law_416
  have p1 : nI i + (1 : Int32) = nI (i + 1) := nI_add i 1
  rw [ck_t (okI_lo (by omega)), p1, ck_t (by rw [lZ, i_inB (by omega)]; exact decide_eq_true (by omega)), i_cl (show i + 1 < 2147483648 by omega), hx (i + 1), e13, bnd2_some, ck_t hM.1, x13 (i + 1), e16, bnd2_some, t16, bnd2_some, if_pos rfl]
  by_cases k0 : k = 0
  · rw [if_pos (by rw [k0]; rfl), ck_t hZ.2.2.1.1, ck_t (by rw [hZ.2.2.1.2]; decide), if_pos (d16 k0)]
  · rw [if_neg (by rw [i_0, i_eq (by omega) (by omega)]; exact k0)]
theorem law_472 (hN : 5000 ≤ N) (hZ : LawZ Z L) (h : LI xs c Z M) (hc : c + 300 ≤ 1000000) (hL : L ≤ 2560) (hi : i + 5 ≤ L) (K : Nat → Nat → Nat → Nat → Nat → Int32 → mM → Option (Int32 × mM)) : ∃ M16, fL_law_472 N Z K 0 8 116 129 130 (nI i) M = K 0 8 116 129 130 (nI i + (5 : Int32)) M16 ∧ LI xs (c + 27) Z M16 := by
  obtain ⟨hx, hs, ⟨A, sv, H, n, rp, r, tx, len⟩, cs, ms, ws⟩ := h
  have hC := hZ.1
  have hM := hZ.2.1
  have lZ := hZ.2.2.2.2
  have hop := op_deck (N := N) hN hC hM ws (by omega) cs (xs (i + 1)) (xs (i + 2)) (xs (i + 3))
  obtain ⟨k, M13, e13, x13, k3, b, M16, e16, t16, d16, L16⟩ := law_call (N := N) (show fL_deck N Z 8 (xs (i + 1)) (xs (i + 2)) (xs (i + 3)) 129 M = _ from rfl) hZ hx hs ms hop (cat_3 (by decide +kernel) (by decide +kernel) (by decide +kernel) rfl rfl rfl)
  refine ⟨M16, ?_, L16.mono (by omega) (by omega)⟩
  unfold fL_law_472
  have p1 : nI i + (1 : Int32) = nI (i + 1) := nI_add i 1
  have p2 : nI i + (2 : Int32) = nI (i + 2) := nI_add i 2
  have p3 : nI i + (3 : Int32) = nI (i + 3) := nI_add i 3
  rw [ck_t (okI_lo (by omega)), p1, p2, p3, ck_t (by rw [lZ, i_inB (by omega)]; exact decide_eq_true (by omega)), ck_t (by rw [lZ, i_inB (by omega)]; exact decide_eq_true (by omega)), ck_t (by rw [lZ, i_inB (by omega)]; exact decide_eq_true (by omega)), i_cl (show i + 1 < 2147483648 by omega), i_cl (show i + 2 < 2147483648 by omega), i_cl (show i + 3 < 2147483648 by omega), hx (i + 1), hx (i + 2), hx (i + 3), e13, bnd2_some, ck_t hM.1, x13 (i + 1), x13 (i + 2), x13 (i + 3), e16, bnd2_some, t16, bnd2_some, if_pos rfl]
  by_cases k0 : k = 0
  · rw [if_pos (by rw [k0]; rfl), ck_t hZ.2.2.1.1, ck_t (by rw [hZ.2.2.1.2]; decide), if_pos (d16 k0)]
  · rw [if_neg (by rw [i_0, i_eq (by omega) (by omega)]; exact k0)]
theorem law_552 (hN : 5000 ≤ N) (hZ : LawZ Z L) (h : LI xs c Z M) (hc : c + 300 ≤ 1000000) (hL : L ≤ 2560) (hi : i + 5 ≤ L) (K : Nat → Nat → Nat → Nat → Nat → Int32 → mM → Option (Int32 × mM)) : ∃ M16, fL_law_552 N Z K 0 8 116 129 130 (nI i) M = K 0 8 116 129 130 (nI i + (5 : Int32)) M16 ∧ LI xs (c + 27) Z M16 := by
  obtain ⟨hx, hs, ⟨A, sv, H, n, rp, r, tx, len⟩, cs, ms, ws⟩ := h
  have hC := hZ.1
  have hM := hZ.2.1
  have lZ := hZ.2.2.2.2
  have hop := op_put (N := N) hN hC hM ws (by omega) cs (xs (i + 1)) (xs (i + 2)) (xs (i + 3))
  obtain ⟨k, M13, e13, x13, k3, b, M16, e16, t16, d16, L16⟩ := law_call (N := N) (show fL_put N Z 8 (xs (i + 1)) (xs (i + 2)) (xs (i + 3)) 129 M = _ from rfl) hZ hx hs ms hop (cat_3 (by decide +kernel) (by decide +kernel) (by decide +kernel) rfl rfl rfl)
  refine ⟨M16, ?_, L16.mono (by omega) (by omega)⟩
  unfold fL_law_552
  have p1 : nI i + (1 : Int32) = nI (i + 1) := nI_add i 1
  have p2 : nI i + (2 : Int32) = nI (i + 2) := nI_add i 2
  have p3 : nI i + (3 : Int32) = nI (i + 3) := nI_add i 3
  rw [ck_t (okI_lo (by omega)), p1, p2, p3, ck_t (by rw [lZ, i_inB (by omega)]; exact decide_eq_true (by omega)), ck_t (by rw [lZ, i_inB (by omega)]; exact decide_eq_true (by omega)), ck_t (by rw [lZ, i_inB (by omega)]; exact decide_eq_true (by omega)), i_cl (show i + 1 < 2147483648 by omega), i_cl (show i + 2 < 2147483648 by omega), i_cl (show i + 3 < 2147483648 by omega), hx (i + 1), hx (i + 2), hx (i + 3), e13, bnd2_some, ck_t hM.1, x13 (i + 1), x13 (i + 2), x13 (i + 3), e16, bnd2_some, t16, bnd2_some, if_pos rfl]
  by_cases k0 : k = 0
  · rw [if_pos (by rw [k0]; rfl), ck_t hZ.2.2.1.1, ck_t (by rw [hZ.2.2.1.2]; decide), if_pos (d16 k0)]
  · rw [if_neg (by rw [i_0, i_eq (by omega) (by omega)]; exact k0)]
theorem law_632 (hN : 5000 ≤ N) (hZ : LawZ Z L) (h : LI xs c Z M) (hc : c + 300 ≤ 1000000) (hL : L ≤ 2560) (hi : i + 5 ≤ L) (K : Nat → Nat → Nat → Nat → Nat → Int32 → mM → Option (Int32 × mM)) : ∃ M16, fL_law_632 N Z K 0 8 116 129 130 (nI i) M = K 0 8 116 129 130 (nI i + (5 : Int32)) M16 ∧ LI xs (c + 27) Z M16 := by
  obtain ⟨hx, hs, ⟨A, sv, H, n, rp, r, tx, len⟩, cs, ms, ws⟩ := h
  have hC := hZ.1
  have hM := hZ.2.1
  have lZ := hZ.2.2.2.2
  have hop := op_take (N := N) hN hC hM ws (by omega) cs (xs (i + 1)) (xs (i + 2)) (xs (i + 3))
  obtain ⟨k, M13, e13, x13, k3, b, M16, e16, t16, d16, L16⟩ := law_call (N := N) (show fL_take N Z 8 (xs (i + 1)) (xs (i + 2)) (xs (i + 3)) 129 M = _ from rfl) hZ hx hs ms hop (cat_3 (by decide +kernel) (by decide +kernel) (by decide +kernel) rfl rfl rfl)
  refine ⟨M16, ?_, L16.mono (by omega) (by omega)⟩
  unfold fL_law_632
  have p1 : nI i + (1 : Int32) = nI (i + 1) := nI_add i 1
  have p2 : nI i + (2 : Int32) = nI (i + 2) := nI_add i 2
  have p3 : nI i + (3 : Int32) = nI (i + 3) := nI_add i 3
  rw [ck_t (okI_lo (by omega)), p1, p2, p3, ck_t (by rw [lZ, i_inB (by omega)]; exact decide_eq_true (by omega)), ck_t (by rw [lZ, i_inB (by omega)]; exact decide_eq_true (by omega)), ck_t (by rw [lZ, i_inB (by omega)]; exact decide_eq_true (by omega)), i_cl (show i + 1 < 2147483648 by omega), i_cl (show i + 2 < 2147483648 by omega), i_cl (show i + 3 < 2147483648 by omega), hx (i + 1), hx (i + 2), hx (i + 3), e13, bnd2_some, ck_t hM.1, x13 (i + 1), x13 (i + 2), x13 (i + 3), e16, bnd2_some, t16, bnd2_some, if_pos rfl]
  by_cases k0 : k = 0
  · rw [if_pos (by rw [k0]; rfl), ck_t hZ.2.2.1.1, ck_t (by rw [hZ.2.2.1.2]; decide), if_pos (d16 k0)]
  · rw [if_neg (by rw [i_0, i_eq (by omega) (by omega)]; exact k0)]
theorem law_712 (hN : 5000 ≤ N) (hZ : LawZ Z L) (h : LI xs c Z M) (hc : c + 300 ≤ 1000000) (hL : L ≤ 2560) (hi : i + 5 ≤ L) (K : Nat → Nat → Nat → Nat → Nat → Int32 → mM → Option (Int32 × mM)) : ∃ M16, fL_law_712 N Z K 0 8 116 129 130 (nI i) M = K 0 8 116 129 130 (nI i + (5 : Int32)) M16 ∧ LI xs (c + 27) Z M16 := by
  obtain ⟨hx, hs, ⟨A, sv, H, n, rp, r, tx, len⟩, cs, ms, ws⟩ := h
  have hC := hZ.1
  have hM := hZ.2.1
  have lZ := hZ.2.2.2.2
  have p1 : nI i + (1 : Int32) = nI (i + 1) := nI_add i 1
  have p2 : nI i + (2 : Int32) = nI (i + 2) := nI_add i 2
  have p3 : nI i + (3 : Int32) = nI (i + 3) := nI_add i 3
  have p4 : nI i + (4 : Int32) = nI (i + 4) := nI_add i 4
  unfold fL_law_712
  rw [ck_t (okI_lo (by omega)), p1, p2, p3, p4, ck_t (by rw [lZ, i_inB (by omega)]; exact decide_eq_true (by omega)), ck_t (by rw [lZ, i_inB (by omega)]; exact decide_eq_true (by omega)), ck_t (by rw [lZ, i_inB (by omega)]; exact decide_eq_true (by omega)), ck_t (by rw [lZ, i_inB (by omega)]; exact decide_eq_true (by omega)), i_cl (show i + 1 < 2147483648 by omega), i_cl (show i + 2 < 2147483648 by omega), i_cl (show i + 3 < 2147483648 by omega), i_cl (show i + 4 < 2147483648 by omega), hx (i + 1), hx (i + 2), hx (i + 3), hx (i + 4)]
  by_cases hb : xs (i + 4) = 0
  · have hop : OpOK M (A, sv, H, n, rp, r, tx, len) c (fX8_refusal N Z 8 (xs (i + 1)) (xs (i + 2)) (xs (i + 3)) (0 : Int32) M) (fX9_refusal N Z 116 (xs (i + 1)) (xs (i + 2)) (xs (i + 3)) (0 : Int32)) (fun k => if k = 1 then IAE else IOO) := op_refusal (N := N) hN hC hM ws (by omega) cs (xs (i + 1)) (xs (i + 2)) (xs (i + 3)) false
    obtain ⟨k, M13, e13, x13, k3, b, M16, e16, t16, d16, L16⟩ := law_call (N := N) (show fL_refusal N Z 8 (xs (i + 1)) (xs (i + 2)) (xs (i + 3)) (0 : Int32) 129 M = _ from rfl) hZ hx hs ms hop (cat_2 (by decide +kernel) rfl rfl rfl)
    refine ⟨M16, ?_, L16.mono (by omega) (by omega)⟩
    rw [if_pos hb, e13, bnd2_some, x13 (i + 4), if_pos hb, ck_t hM.1, x13 (i + 1), x13 (i + 2), x13 (i + 3), e16, bnd2_some, t16, bnd2_some, if_pos rfl]
    by_cases k0 : k = 0
    · rw [if_pos (by rw [k0]; rfl), ck_t hZ.2.2.1.1, ck_t (by rw [hZ.2.2.1.2]; decide), if_pos (d16 k0)]
    · rw [if_neg (by rw [i_0, i_eq (by omega) (by omega)]; exact k0)]
  · have hop : OpOK M (A, sv, H, n, rp, r, tx, len) c (fX8_refusal N Z 8 (xs (i + 1)) (xs (i + 2)) (xs (i + 3)) (1 : Int32) M) (fX9_refusal N Z 116 (xs (i + 1)) (xs (i + 2)) (xs (i + 3)) (1 : Int32)) (fun k => if k = 1 then IAE else IOO) := op_refusal (N := N) hN hC hM ws (by omega) cs (xs (i + 1)) (xs (i + 2)) (xs (i + 3)) true
    obtain ⟨k, M13, e13, x13, k3, b, M16, e16, t16, d16, L16⟩ := law_call (N := N) (show fL_refusal N Z 8 (xs (i + 1)) (xs (i + 2)) (xs (i + 3)) (1 : Int32) 129 M = _ from rfl) hZ hx hs ms hop (cat_2 (by decide +kernel) rfl rfl rfl)
    refine ⟨M16, ?_, L16.mono (by omega) (by omega)⟩
    rw [if_neg hb, e13, bnd2_some, x13 (i + 4), if_neg hb, ck_t hM.1, x13 (i + 1), x13 (i + 2), x13 (i + 3), e16, bnd2_some, t16, bnd2_some, if_pos rfl]
    by_cases k0 : k = 0
    · rw [if_pos (by rw [k0]; rfl), ck_t hZ.2.2.1.1, ck_t (by rw [hZ.2.2.1.2]; decide), if_pos (d16 k0)]
    · rw [if_neg (by rw [i_0, i_eq (by omega) (by omega)]; exact k0)]
theorem law_820 (hN : 5000 ≤ N) (hZ : LawZ Z L) (h : LI xs c Z M) (hc : c + 300 ≤ 1000000) (hL : L ≤ 2560) (hi : i + 5 ≤ L) (K : Nat → Nat → Nat → Nat → Nat → Int32 → mM → Option (Int32 × mM)) : ∃ M16, fL_law_820 N Z K 0 8 116 129 130 (nI i) M = K 0 8 116 129 130 (nI i + (5 : Int32)) M16 ∧ LI xs (c + 27) Z M16 := by
  obtain ⟨hx, hs, ⟨A, sv, H, n, rp, r, tx, len⟩, cs, ms, ws⟩ := h
  have hC := hZ.1
  have hM := hZ.2.1
  have lZ := hZ.2.2.2.2
  have p1 : nI i + (1 : Int32) = nI (i + 1) := nI_add i 1
  have p2 : nI i + (2 : Int32) = nI (i + 2) := nI_add i 2
  unfold fL_law_820
  rw [ck_t (okI_lo (by omega)), p1, p2, ck_t (by rw [lZ, i_inB (by omega)]; exact decide_eq_true (by omega)), ck_t (by rw [lZ, i_inB (by omega)]; exact decide_eq_true (by omega)), i_cl (show i + 1 < 2147483648 by omega), i_cl (show i + 2 < 2147483648 by omega), hx (i + 1), hx (i + 2)]
  by_cases hb : xs (i + 2) = 0
  · have hop : OpOK M (A, sv, H, n, rp, r, tx, len) c (fX8_report N Z 8 (xs (i + 1)) (0 : Int32) M) (fX9_report N Z 116 (xs (i + 1)) (0 : Int32)) (fun _ => NSE) := op_report (N := N) hC hM ws cs (xs (i + 1)) false
    obtain ⟨k, M13, e13, x13, k3, b, M16, e16, t16, d16, L16⟩ := law_call (N := N) (show fL_report N Z 8 (xs (i + 1)) (0 : Int32) 129 M = _ from rfl) hZ hx hs ms hop (cat_1 rfl rfl rfl)
    refine ⟨M16, ?_, L16.mono (by omega) (by omega)⟩
    rw [if_pos hb, e13, bnd2_some, x13 (i + 2), if_pos hb, ck_t hM.1, x13 (i + 1), e16, bnd2_some, t16, bnd2_some, if_pos rfl]
    by_cases k0 : k = 0
    · rw [if_pos (by rw [k0]; rfl), ck_t hZ.2.2.1.1, ck_t (by rw [hZ.2.2.1.2]; decide), if_pos (d16 k0)]
    · rw [if_neg (by rw [i_0, i_eq (by omega) (by omega)]; exact k0)]
  · have hop : OpOK M (A, sv, H, n, rp, r, tx, len) c (fX8_report N Z 8 (xs (i + 1)) (1 : Int32) M) (fX9_report N Z 116 (xs (i + 1)) (1 : Int32)) (fun _ => NSE) := op_report (N := N) hC hM ws cs (xs (i + 1)) true
    obtain ⟨k, M13, e13, x13, k3, b, M16, e16, t16, d16, L16⟩ := law_call (N := N) (show fL_report N Z 8 (xs (i + 1)) (1 : Int32) 129 M = _ from rfl) hZ hx hs ms hop (cat_1 rfl rfl rfl)
    refine ⟨M16, ?_, L16.mono (by omega) (by omega)⟩
    rw [if_neg hb, e13, bnd2_some, x13 (i + 2), if_neg hb, ck_t hM.1, x13 (i + 1), e16, bnd2_some, t16, bnd2_some, if_pos rfl]
    by_cases k0 : k = 0
    · rw [if_pos (by rw [k0]; rfl), ck_t hZ.2.2.1.1, ck_t (by rw [hZ.2.2.1.2]; decide), if_pos (d16 k0)]
    · rw [if_neg (by rw [i_0, i_eq (by omega) (by omega)]; exact k0)]
theorem law_904 (hN : 5000 ≤ N) (hZ : LawZ Z L) (h : LI xs c Z M) (hc : c + 300 ≤ 1000000) (hL : L ≤ 2560) (hi : i + 5 ≤ L) (K : Nat → Nat → Nat → Nat → Nat → Int32 → mM → Option (Int32 × mM)) : ∃ M16, fL_law_904 N Z K 0 8 116 129 130 (nI i) M = K 0 8 116 129 130 (nI i + (5 : Int32)) M16 ∧ LI xs (c + 27) Z M16 := by
  obtain ⟨hx, hs, ⟨A, sv, H, n, rp, r, tx, len⟩, cs, ms, ws⟩ := h
  have hC := hZ.1
  have hM := hZ.2.1
  have lZ := hZ.2.2.2.2
  have hop := op_bay (N := N) hN hC hM ws cs (xs (i + 1)) (xs (i + 2))
  obtain ⟨k, M13, e13, x13, k3, b, M16, e16, t16, d16, L16⟩ := law_call (N := N) (show fL_bay N Z 8 (xs (i + 1)) (xs (i + 2)) 129 M = _ from rfl) hZ hx hs ms hop (cat_2 (by decide +kernel) rfl rfl rfl)
  refine ⟨M16, ?_, L16.mono (by omega) (by omega)⟩
  unfold fL_law_904
  have p1 : nI i + (1 : Int32) = nI (i + 1) := nI_add i 1
  have p2 : nI i + (2 : Int32) = nI (i + 2) := nI_add i 2
  rw [ck_t (okI_lo (by omega)), p1, p2, ck_t (by rw [lZ, i_inB (by omega)]; exact decide_eq_true (by omega)), ck_t (by rw [lZ, i_inB (by omega)]; exact decide_eq_true (by omega)), i_cl (show i + 1 < 2147483648 by omega), i_cl (show i + 2 < 2147483648 by omega), hx (i + 1), hx (i + 2), e13, bnd2_some, ck_t hM.1, x13 (i + 1), x13 (i + 2), e16, bnd2_some, t16, bnd2_some, if_pos rfl]
  by_cases k0 : k = 0
  · rw [if_pos (by rw [k0]; rfl), ck_t hZ.2.2.1.1, ck_t (by rw [hZ.2.2.1.2]; decide), if_pos (d16 k0)]
  · rw [if_neg (by rw [i_0, i_eq (by omega) (by omega)]; exact k0)]
theorem law_972 (hN : 5000 ≤ N) (hZ : LawZ Z L) (h : LI xs c Z M) (hc : c + 300 ≤ 1000000) (hL : L ≤ 2560) (hi : i + 5 ≤ L) (K : Nat → Nat → Nat → Nat → Nat → Int32 → mM → Option (Int32 × mM)) : ∃ M16, fL_law_972 N Z K 0 8 116 129 130 (nI i) M = K 0 8 116 129 130 (nI i + (5 : Int32)) M16 ∧ LI xs (c + 27) Z M16 := by
  obtain ⟨hx, hs, ⟨A, sv, H, n, rp, r, tx, len⟩, cs, ms, ws⟩ := h
  have hC := hZ.1
  have hM := hZ.2.1
  have lZ := hZ.2.2.2.2
  have hop := op_post (N := N) hN hC hM ws cs (xs (i + 1)) (xs (i + 2))
  obtain ⟨k, M13, e13, x13, k3, b, M16, e16, t16, d16, L16⟩ := law_call (N := N) (show fL_post N Z 8 (xs (i + 1)) (xs (i + 2)) 129 M = _ from rfl) hZ hx hs ms hop (cat_2 (by decide +kernel) rfl rfl rfl)
  refine ⟨M16, ?_, L16.mono (by omega) (by omega)⟩
  unfold fL_law_972
  have p1 : nI i + (1 : Int32) = nI (i + 1) := nI_add i 1
  have p2 : nI i + (2 : Int32) = nI (i + 2) := nI_add i 2
  rw [ck_t (okI_lo (by omega)), p1, p2, ck_t (by rw [lZ, i_inB (by omega)]; exact decide_eq_true (by omega)), ck_t (by rw [lZ, i_inB (by omega)]; exact decide_eq_true (by omega)), i_cl (show i + 1 < 2147483648 by omega), i_cl (show i + 2 < 2147483648 by omega), hx (i + 1), hx (i + 2), e13, bnd2_some, ck_t hM.1, x13 (i + 1), x13 (i + 2), e16, bnd2_some, t16, bnd2_some, if_pos rfl]
  by_cases k0 : k = 0
  · rw [if_pos (by rw [k0]; rfl), ck_t hZ.2.2.1.1, ck_t (by rw [hZ.2.2.1.2]; decide), if_pos (d16 k0)]
  · rw [if_neg (by rw [i_0, i_eq (by omega) (by omega)]; exact k0)]
theorem law_1040 (hN : 5000 ≤ N) (hZ : LawZ Z L) (h : LI xs c Z M) (hc : c + 300 ≤ 1000000) (hL : L ≤ 2560) (hi : i + 5 ≤ L) (K : Nat → Nat → Nat → Nat → Nat → Int32 → mM → Option (Int32 × mM)) : ∃ M16, fL_law_1040 N Z K 0 8 116 129 130 (nI i) M = K 0 8 116 129 130 (nI i + (5 : Int32)) M16 ∧ LI xs (c + 27) Z M16 := by
  obtain ⟨hx, hs, ⟨A, sv, H, n, rp, r, tx, len⟩, cs, ms, ws⟩ := h
  have hC := hZ.1
  have hM := hZ.2.1
  have lZ := hZ.2.2.2.2
  have hop := op_load (N := N) hN hC hM ws cs (xs (i + 1)) (xs (i + 2))
  obtain ⟨k, M13, e13, x13, k3, b, M16, e16, t16, d16, L16⟩ := law_call (N := N) (show fL_load N Z 8 (xs (i + 1)) (xs (i + 2)) 129 M = _ from rfl) hZ hx hs ms hop (cat_2 (by decide +kernel) rfl rfl rfl)
  refine ⟨M16, ?_, L16.mono (by omega) (by omega)⟩
  unfold fL_law_1040
  have p1 : nI i + (1 : Int32) = nI (i + 1) := nI_add i 1
  have p2 : nI i + (2 : Int32) = nI (i + 2) := nI_add i 2
  rw [ck_t (okI_lo (by omega)), p1, p2, ck_t (by rw [lZ, i_inB (by omega)]; exact decide_eq_true (by omega)), ck_t (by rw [lZ, i_inB (by omega)]; exact decide_eq_true (by omega)), i_cl (show i + 1 < 2147483648 by omega), i_cl (show i + 2 < 2147483648 by omega), hx (i + 1), hx (i + 2), e13, bnd2_some, ck_t hM.1, x13 (i + 1), x13 (i + 2), e16, bnd2_some, t16, bnd2_some, if_pos rfl]
  by_cases k0 : k = 0
  · rw [if_pos (by rw [k0]; rfl), ck_t hZ.2.2.1.1, ck_t (by rw [hZ.2.2.1.2]; decide), if_pos (d16 k0)]
  · rw [if_neg (by rw [i_0, i_eq (by omega) (by omega)]; exact k0)]
theorem law_1108 (hN : 5000 ≤ N) (hZ : LawZ Z L) (h : LI xs c Z M) (hc : c + 300 ≤ 1000000) (hL : L ≤ 2560) (hi : i + 5 ≤ L) (K : Nat → Nat → Nat → Nat → Nat → Int32 → mM → Option (Int32 × mM)) : ∃ M16, fL_law_1108 N Z K 0 8 116 129 130 (nI i) M = K 0 8 116 129 130 (nI i + (5 : Int32)) M16 ∧ LI xs (c + 27) Z M16 := by
  obtain ⟨hx, hs, ⟨A, sv, H, n, rp, r, tx, len⟩, cs, ms, ws⟩ := h
  have hC := hZ.1
  have hM := hZ.2.1
  have lZ := hZ.2.2.2.2
  have hop := op_steps (N := N) hN hC hM ws cs (xs (i + 1)) (xs (i + 2))
  obtain ⟨k, M13, e13, x13, k3, b, M16, e16, t16, d16, L16⟩ := law_call (N := N) (show fL_steps N Z 8 (xs (i + 1)) (xs (i + 2)) 129 M = _ from rfl) hZ hx hs ms hop (cat_2 (by decide +kernel) rfl rfl rfl)
  refine ⟨M16, ?_, L16.mono (by omega) (by omega)⟩
  unfold fL_law_1108
  have p1 : nI i + (1 : Int32) = nI (i + 1) := nI_add i 1
  have p2 : nI i + (2 : Int32) = nI (i + 2) := nI_add i 2
  rw [ck_t (okI_lo (by omega)), p1, p2, ck_t (by rw [lZ, i_inB (by omega)]; exact decide_eq_true (by omega)), ck_t (by rw [lZ, i_inB (by omega)]; exact decide_eq_true (by omega)), i_cl (show i + 1 < 2147483648 by omega), i_cl (show i + 2 < 2147483648 by omega), hx (i + 1), hx (i + 2), e13, bnd2_some, ck_t hM.1, x13 (i + 1), x13 (i + 2), e16, bnd2_some, t16, bnd2_some, if_pos rfl]
  by_cases k0 : k = 0
  · rw [if_pos (by rw [k0]; rfl), ck_t hZ.2.2.1.1, ck_t (by rw [hZ.2.2.1.2]; decide), if_pos (d16 k0)]
  · rw [if_neg (by rw [i_0, i_eq (by omega) (by omega)]; exact k0)]
theorem law_1176 (hN : 5000 ≤ N) (hZ : LawZ Z L) (h : LI xs c Z M) (hc : c + 300 ≤ 1000000) (hL : L ≤ 2560) (hi : i + 5 ≤ L) (K : Nat → Nat → Nat → Nat → Nat → Int32 → mM → Option (Int32 × mM)) : ∃ M16, fL_law_1176 N Z K 0 8 116 129 130 (nI i) M = K 0 8 116 129 130 (nI i + (5 : Int32)) M16 ∧ LI xs (c + 27) Z M16 := by
  obtain ⟨hx, hs, ⟨A, sv, H, n, rp, r, tx, len⟩, cs, ms, ws⟩ := h
  have hC := hZ.1
  have hM := hZ.2.1
  have lZ := hZ.2.2.2.2
  have hop := op_fewest (N := N) hN hC hM ws cs (xs (i + 1))
  obtain ⟨k, M13, e13, x13, k3, b, M16, e16, t16, d16, L16⟩ := law_call (N := N) (show fL_fewestTies N Z 8 (xs (i + 1)) 129 M = _ from rfl) hZ hx hs ms hop (cat_1 rfl rfl rfl)
  refine ⟨M16, ?_, L16.mono (by omega) (by omega)⟩
  unfold fL_law_1176
  have p1 : nI i + (1 : Int32) = nI (i + 1) := nI_add i 1
  rw [ck_t (okI_lo (by omega)), p1, ck_t (by rw [lZ, i_inB (by omega)]; exact decide_eq_true (by omega)), i_cl (show i + 1 < 2147483648 by omega), hx (i + 1), e13, bnd2_some, ck_t hM.1, x13 (i + 1), e16, bnd2_some, t16, bnd2_some, if_pos rfl]
  by_cases k0 : k = 0
  · rw [if_pos (by rw [k0]; rfl), ck_t hZ.2.2.1.1, ck_t (by rw [hZ.2.2.1.2]; decide), if_pos (d16 k0)]
  · rw [if_neg (by rw [i_0, i_eq (by omega) (by omega)]; exact k0)]
theorem law_1232 (hN : 5000 ≤ N) (hZ : LawZ Z L) (h : LI xs c Z M) (hc : c + 300 ≤ 1000000) (hL : L ≤ 2560) (hi : i + 5 ≤ L) (K : Nat → Nat → Nat → Nat → Nat → Int32 → mM → Option (Int32 × mM)) : ∃ M16, fL_law_1232 N Z K 0 8 116 129 130 (nI i) M = K 0 8 116 129 130 (nI i + (5 : Int32)) M16 ∧ LI xs (c + 27) Z M16 := by
  obtain ⟨hx, hs, ⟨A, sv, H, n, rp, r, tx, len⟩, cs, ms, ws⟩ := h
  have hC := hZ.1
  have hM := hZ.2.1
  have lZ := hZ.2.2.2.2
  have hop := op_tieLevels (N := N) hN hC hM ws cs (xs (i + 1))
  obtain ⟨k, M13, e13, x13, k3, b, M16, e16, t16, d16, L16⟩ := law_call (N := N) (show fL_tieLevels N Z 8 (xs (i + 1)) 129 M = _ from rfl) hZ hx hs ms hop (cat_1 rfl rfl rfl)
  refine ⟨M16, ?_, L16.mono (by omega) (by omega)⟩
  unfold fL_law_1232
  have p1 : nI i + (1 : Int32) = nI (i + 1) := nI_add i 1
  rw [ck_t (okI_lo (by omega)), p1, ck_t (by rw [lZ, i_inB (by omega)]; exact decide_eq_true (by omega)), i_cl (show i + 1 < 2147483648 by omega), hx (i + 1), e13, bnd2_some, ck_t hM.1, x13 (i + 1), e16, bnd2_some, t16, bnd2_some, if_pos rfl]
  by_cases k0 : k = 0
  · rw [if_pos (by rw [k0]; rfl), ck_t hZ.2.2.1.1, ck_t (by rw [hZ.2.2.1.2]; decide), if_pos (d16 k0)]
  · rw [if_neg (by rw [i_0, i_eq (by omega) (by omega)]; exact k0)]
theorem law_1288 (hN : 5000 ≤ N) (hZ : LawZ Z L) (h : LI xs c Z M) (hc : c + 300 ≤ 1000000) (hL : L ≤ 2560) (hi : i + 5 ≤ L) (K : Nat → Nat → Nat → Nat → Nat → Int32 → mM → Option (Int32 × mM)) : ∃ M16, fL_law_1288 N Z K 0 8 116 129 130 (nI i) M = K 0 8 116 129 130 (nI i + (5 : Int32)) M16 ∧ LI xs (c + 27) Z M16 := by
  obtain ⟨hx, hs, ⟨A, sv, H, n, rp, r, tx, len⟩, cs, ms, ws⟩ := h
  have hC := hZ.1
  have hM := hZ.2.1
  have lZ := hZ.2.2.2.2
  have hop := op_missing (N := N) hN hC hM ws cs (xs (i + 1)) (xs (i + 2))
  obtain ⟨k, M13, e13, x13, k3, b, M16, e16, t16, d16, L16⟩ := law_call (N := N) (show fL_missing N Z 8 (xs (i + 1)) (xs (i + 2)) 129 M = _ from rfl) hZ hx hs ms hop (cat_1 rfl rfl rfl)
  refine ⟨M16, ?_, L16.mono (by omega) (by omega)⟩
  unfold fL_law_1288
  have p1 : nI i + (1 : Int32) = nI (i + 1) := nI_add i 1
  have p2 : nI i + (2 : Int32) = nI (i + 2) := nI_add i 2
  rw [ck_t (okI_lo (by omega)), p1, p2, ck_t (by rw [lZ, i_inB (by omega)]; exact decide_eq_true (by omega)), ck_t (by rw [lZ, i_inB (by omega)]; exact decide_eq_true (by omega)), i_cl (show i + 1 < 2147483648 by omega), i_cl (show i + 2 < 2147483648 by omega), hx (i + 1), hx (i + 2), e13, bnd2_some, ck_t hM.1, x13 (i + 1), x13 (i + 2), e16, bnd2_some, t16, bnd2_some, if_pos rfl]
  by_cases k0 : k = 0
  · rw [if_pos (by rw [k0]; rfl), ck_t hZ.2.2.1.1, ck_t (by rw [hZ.2.2.1.2]; decide), if_pos (d16 k0)]
  · rw [if_neg (by rw [i_0, i_eq (by omega) (by omega)]; exact k0)]
theorem law_1356 (hN : 5000 ≤ N) (hZ : LawZ Z L) (h : LI xs c Z M) (hc : c + 300 ≤ 1000000) (hL : L ≤ 2560) (hi : i + 5 ≤ L) (K : Nat → Nat → Nat → Nat → Nat → Int32 → mM → Option (Int32 × mM)) : ∃ M16, fL_law_1356 N Z K 0 8 116 129 130 (nI i) M = K 0 8 116 129 130 (nI i + (5 : Int32)) M16 ∧ LI xs (c + 27) Z M16 := by
  obtain ⟨hx, hs, ⟨A, sv, H, n, rp, r, tx, len⟩, cs, ms, ws⟩ := h
  have hC := hZ.1
  have hM := hZ.2.1
  have lZ := hZ.2.2.2.2
  have hop := op_dismantling (N := N) hN hC hM hs ws (by omega) cs
  obtain ⟨k, M13, e13, x13, k3, b, M16, e16, t16, d16, L16⟩ := law_call (N := N) (show fL_dismantling N Z 8 129 M = _ from rfl) hZ hx hs ms hop (cat_1 rfl rfl rfl)
  refine ⟨M16, ?_, L16.mono (by omega) (by omega)⟩
  unfold fL_law_1356
  rw [e13, bnd2_some, ck_t hM.1, e16, bnd2_some, t16, bnd2_some, if_pos rfl]
  by_cases k0 : k = 0
  · rw [if_pos (by rw [k0]; rfl), ck_t hZ.2.2.1.1, ck_t (by rw [hZ.2.2.1.2]; decide), if_pos (d16 k0)]
  · rw [if_neg (by rw [i_0, i_eq (by omega) (by omega)]; exact k0)]
theorem law_1400 (hN : 5000 ≤ N) (hZ : LawZ Z L) (h : LI xs c Z M) (hc : c + 300 ≤ 1000000) (hL : L ≤ 2560) (hi : i + 5 ≤ L) (K : Nat → Nat → Nat → Nat → Nat → Int32 → mM → Option (Int32 × mM)) : ∃ M16, fL_law_1400 N Z K 0 8 116 129 130 (nI i) M = K 0 8 116 129 130 (nI i + (5 : Int32)) M16 ∧ LI xs (c + 27) Z M16 := by
  obtain ⟨hx, hs, ⟨A, sv, H, n, rp, r, tx, len⟩, cs, ms, ws⟩ := h
  have hC := hZ.1
  have hM := hZ.2.1
  have lZ := hZ.2.2.2.2
  have hop := op_work (N := N) hN hC hM hs ws (by omega) cs (xs (i + 1)) (xs (i + 2))
  obtain ⟨k, M13, e13, x13, k3, b, M16, e16, t16, d16, L16⟩ := law_call (N := N) (show fL_work N Z 8 (xs (i + 1)) (xs (i + 2)) 129 M = _ from rfl) hZ hx hs ms hop (cat_2 (by decide +kernel) rfl rfl rfl)
  refine ⟨M16, ?_, L16.mono (by omega) (by omega)⟩
  unfold fL_law_1400
  have p1 : nI i + (1 : Int32) = nI (i + 1) := nI_add i 1
  have p2 : nI i + (2 : Int32) = nI (i + 2) := nI_add i 2
  rw [ck_t (okI_lo (by omega)), p1, p2, ck_t (by rw [lZ, i_inB (by omega)]; exact decide_eq_true (by omega)), ck_t (by rw [lZ, i_inB (by omega)]; exact decide_eq_true (by omega)), i_cl (show i + 1 < 2147483648 by omega), i_cl (show i + 2 < 2147483648 by omega), hx (i + 1), hx (i + 2), e13, bnd2_some, ck_t hM.1, x13 (i + 1), x13 (i + 2), e16, bnd2_some, t16, bnd2_some, if_pos rfl]
  by_cases k0 : k = 0
  · rw [if_pos (by rw [k0]; rfl), ck_t hZ.2.2.1.1, ck_t (by rw [hZ.2.2.1.2]; decide), if_pos (d16 k0)]
  · rw [if_neg (by rw [i_0, i_eq (by omega) (by omega)]; exact k0)]
theorem law_1468 (hN : 5000 ≤ N) (hZ : LawZ Z L) (h : LI xs c Z M) (hc : c + 300 ≤ 1000000) (hL : L ≤ 2560) (hi : i + 5 ≤ L) (K : Nat → Nat → Nat → Nat → Nat → Int32 → mM → Option (Int32 × mM)) : ∃ M16, fL_law_1468 N Z K 0 8 116 129 130 (nI i) M = K 0 8 116 129 130 (nI i + (5 : Int32)) M16 ∧ LI xs (c + 27) Z M16 := by
  obtain ⟨hx, hs, ⟨A, sv, H, n, rp, r, tx, len⟩, cs, ms, ws⟩ := h
  have hC := hZ.1
  have hM := hZ.2.1
  have lZ := hZ.2.2.2.2
  have hop := op_account (N := N) hN hC hM ws cs (xs (i + 1))
  obtain ⟨k, M13, e13, x13, k3, b, M16, e16, t16, d16, L16⟩ := law_call (N := N) (show fL_account N Z 8 (xs (i + 1)) 129 M = _ from rfl) hZ hx hs ms hop (cat_1 rfl rfl rfl)
  refine ⟨M16, ?_, L16.mono (by omega) (by omega)⟩
  unfold fL_law_1468
  have p1 : nI i + (1 : Int32) = nI (i + 1) := nI_add i 1
  rw [ck_t (okI_lo (by omega)), p1, ck_t (by rw [lZ, i_inB (by omega)]; exact decide_eq_true (by omega)), i_cl (show i + 1 < 2147483648 by omega), hx (i + 1), e13, bnd2_some, ck_t hM.1, x13 (i + 1), e16, bnd2_some, t16, bnd2_some, if_pos rfl]
  by_cases k0 : k = 0
  · rw [if_pos (by rw [k0]; rfl), ck_t hZ.2.2.1.1, ck_t (by rw [hZ.2.2.1.2]; decide), if_pos (d16 k0)]
  · rw [if_neg (by rw [i_0, i_eq (by omega) (by omega)]; exact k0)]
theorem law_1524 (hN : 5000 ≤ N) (hZ : LawZ Z L) (h : LI xs c Z M) (hc : c + 300 ≤ 1000000) (hL : L ≤ 2560) (hi : i + 5 ≤ L) (K : Nat → Nat → Nat → Nat → Nat → Int32 → mM → Option (Int32 × mM)) : ∃ M16, fL_law_1524 N Z K 0 8 116 129 130 (nI i) M = K 0 8 116 129 130 (nI i + (5 : Int32)) M16 ∧ LI xs (c + 27) Z M16 := by
  obtain ⟨hx, hs, ⟨A, sv, H, n, rp, r, tx, len⟩, cs, ms, ws⟩ := h
  have hC := hZ.1
  have hM := hZ.2.1
  have lZ := hZ.2.2.2.2
  have p1 : nI i + (1 : Int32) = nI (i + 1) := nI_add i 1
  have hq := op_use (N := N) hN hC hM ws cs (xs (i + 1))
  unfold fL_law_1524 fL_use
  rw [ck_t (okI_lo (by omega)), p1, ck_t (by rw [lZ, i_inB (by omega)]; exact decide_eq_true (by omega)), i_cl (by omega), hx, ck_t hC.1]
  rcases hq with ⟨u, hu, e1, e2⟩ | ⟨e1, e2⟩
  · have d1 := f2dN hu
    have ms2 : MS (sD M 130 ((0 : Int32)).toNatClampNeg (FP.f2d u)) (A, sv, H, n, rp, r, tx, len) := ms
    have cs2 : CS (sD M 130 ((0 : Int32)).toNatClampNeg (FP.f2d u)) (A, sv, H, n, rp, r, tx, len) := cs
    have e3 := e2 _ ms2
    refine ⟨sI (sD M 130 ((0 : Int32)).toNatClampNeg (FP.f2d u)) 116 9 (0 : Int32), ?_, fun j => ?_, stat_lo hs (fun q hq j => ?_), (A, sv, H, n, rp, r, tx, len), cs2.mo mo_thr, ms2.thr _, WS.mono (σ := (A, sv, H, n, rp, r, tx, len)) ws (by omega) (by omega)⟩
    · rw [e1]
      show bnd2 (ck (nn64 (FP.f2d u)) _) _ = _
      rw [ck_t (nn64_of d1), ck_t hZ.2.2.2.1.1, ck_t (by rw [hZ.2.2.2.1.2]; decide), bnd2_some, ck_t hM.1]
      show bnd2 (fX9_use N Z 116 (M.1 0 (i + 1)) _) _ = _
      rw [hx, e3, bnd2_some, m_thrown hM, bnd2_some, sI_same, if_pos rfl, if_pos rfl, ck_t hZ.2.2.2.1.1, ck_t (by rw [hZ.2.2.2.1.2]; decide), ck_t (nn64_of d1)]
      have g : (sI (sD M 130 ((0 : Int32)).toNatClampNeg (FP.f2d u)) 116 9 (0 : Int32)).2.2.1 130 ((0 : Int32)).toNatClampNeg = FP.f2d u := by simp [sI, sD]
      rw [g, if_pos (dcmp0 d1)]
    · rw [sI_ne _ _ (by omega)]; exact hx j
    · rw [sI_ne _ _ (by omega)]; rfl
  · have e3 := e2 _ (show MS (sT M) (A, sv, H, n, rp, r, tx, len) from ms)
    refine ⟨sI (sT M) 116 9 (1 : Int32), ?_, fun j => ?_, stat_lo hs (fun q hq j => ?_), (A, sv, H, n, rp, r, tx, len), CS.mo (M := sT M) cs mo_thr, MS.thr (M := sT M) ms _, WS.mono (σ := (A, sv, H, n, rp, r, tx, len)) ws (by omega) (by omega)⟩
    · rw [e1]
      show bnd2 (if ("java/lang/IndexOutOfBoundsException" : String) = "java/lang/IndexOutOfBoundsException" then some ((1 : Int32), sT M) else none) _ = _
      rw [if_pos rfl, bnd2_some, ck_t hM.1]
      show bnd2 (fX9_use N Z 116 (M.1 0 (i + 1)) _) _ = _
      rw [hx, e3, bnd2_some, m_thrown hM, bnd2_some, sI_same, if_pos rfl, if_neg (by decide)]
    · rw [sI_ne _ _ (by omega)]; exact hx j
    · rw [sI_ne _ _ (by omega)]; rfl
theorem law_1602 (hN : 5000 ≤ N) (hZ : LawZ Z L) (h : LI xs c Z M) (hc : c + 300 ≤ 1000000) (hL : L ≤ 2560) (hi : i + 5 ≤ L) (K : Nat → Nat → Nat → Nat → Nat → Int32 → mM → Option (Int32 × mM)) : ∃ M16, fL_law_1602 N Z K 0 8 116 129 130 (nI i) M = K 0 8 116 129 130 (nI i + (5 : Int32)) M16 ∧ LI xs (c + 27) Z M16 := by
  obtain ⟨hx, hs, ⟨A, sv, H, n, rp, r, tx, len⟩, cs, ms, ws⟩ := h
  have hC := hZ.1
  have hM := hZ.2.1
  have lZ := hZ.2.2.2.2
  have hq := op_mean (N := N) hN hC hM ws cs
  unfold fL_law_1602 fL_meanClass
  rw [ck_t hC.1]
  rcases hq with ⟨u, hu, e1, e2⟩ | ⟨e1, e2⟩
  · have ms2 : MS (sD M 130 ((0 : Int32)).toNatClampNeg u) (A, sv, H, n, rp, r, tx, len) := ms
    have cs2 : CS (sD M 130 ((0 : Int32)).toNatClampNeg u) (A, sv, H, n, rp, r, tx, len) := cs
    have e3 := e2 _ ms2
    refine ⟨sI (sD M 130 ((0 : Int32)).toNatClampNeg u) 116 9 (0 : Int32), ?_, fun j => ?_, stat_lo hs (fun q hq j => ?_), (A, sv, H, n, rp, r, tx, len), cs2.mo mo_thr, ms2.thr _, WS.mono (σ := (A, sv, H, n, rp, r, tx, len)) ws (by omega) (by omega)⟩
    · rw [e1]
      show bnd2 (ck (okO Z 130 23) _) _ = _
      rw [ck_t hZ.2.2.2.1.1, ck_t (by rw [hZ.2.2.2.1.2]; decide), bnd2_some, ck_t hM.1, e3, bnd2_some, m_thrown hM, bnd2_some, sI_same, if_pos rfl, if_pos rfl, ck_t hZ.2.2.2.1.1, ck_t (by rw [hZ.2.2.2.1.2]; decide)]
      have g : (sI (sD M 130 ((0 : Int32)).toNatClampNeg u) 116 9 (0 : Int32)).2.2.1 130 ((0 : Int32)).toNatClampNeg = u := by simp [sI, sD]
      rw [g, if_pos (dcmp0 hu)]
    · rw [sI_ne _ _ (by omega)]; exact hx j
    · rw [sI_ne _ _ (by omega)]; rfl
  · have e3 := e2 _ (show MS (sT M) (A, sv, H, n, rp, r, tx, len) from ms)
    refine ⟨sI (sT M) 116 9 (1 : Int32), ?_, fun j => ?_, stat_lo hs (fun q hq j => ?_), (A, sv, H, n, rp, r, tx, len), CS.mo (M := sT M) cs mo_thr, MS.thr (M := sT M) ms _, WS.mono (σ := (A, sv, H, n, rp, r, tx, len)) ws (by omega) (by omega)⟩
    · rw [e1]
      show bnd2 (if ("java/lang/ArithmeticException" : String) = "java/lang/ArithmeticException" then some ((1 : Int32), sT M) else none) _ = _
      rw [if_pos rfl, bnd2_some, ck_t hM.1, e3, bnd2_some, m_thrown hM, bnd2_some, sI_same, if_pos rfl, if_neg (by decide)]
    · rw [sI_ne _ _ (by omega)]; exact hx j
    · rw [sI_ne _ _ (by omega)]; rfl
theorem ch_of (x : Int32) : ∃ ch, ch < 65536 ∧ (x.toUInt32 % 65536).toInt32 = nI ch := by
  refine ⟨(x.toUInt32 % 65536).toNat, ?_, ?_⟩
  · rw [UInt32.toNat_mod]; exact Nat.mod_lt _ (by decide)
  · apply Int32.toBitVec_inj.mp
    apply BitVec.eq_of_toNat_eq
    have h : (x.toUInt32 % 65536).toNat < 2 ^ 32 := (x.toUInt32 % 65536).toNat_lt
    show (x.toUInt32 % 65536).toNat = ((x.toUInt32 % 65536).toNat) % 2 ^ 32
    rw [Nat.mod_eq_of_lt h]
theorem law_1667 (hN : 5000 ≤ N) (hZ : LawZ Z L) (h : LI xs c Z M) (hc : c + 300 ≤ 1000000) (hL : L ≤ 2560) (hi : i + 5 ≤ L) (K : Nat → Nat → Nat → Nat → Nat → Int32 → mM → Option (Int32 × mM)) : ∃ M16, fL_law_1667 N Z K 0 8 116 129 130 (nI i) M = K 0 8 116 129 130 (nI i + (5 : Int32)) M16 ∧ LI xs (c + 27) Z M16 := by
  obtain ⟨hx, hs, ⟨A, sv, H, n, rp, r, tx, len⟩, cs, ms, ws⟩ := h
  have hC := hZ.1
  have hM := hZ.2.1
  have lZ := hZ.2.2.2.2
  obtain ⟨ch, hch, hce⟩ : ∃ ch, ch < 65536 ∧ ((xs (i + 1)).toUInt32 % 65536).toInt32 = nI ch := ch_of _
  have hop := op_feed (N := N) hC hM ws cs hch
  obtain ⟨k, M13, e13, x13, k3, b, M16, e16, t16, d16, L16⟩ := law_call (N := N) (show fL_feed N Z 8 (nI ch) 129 M = _ from rfl) hZ hx hs ms hop (cat_1 rfl rfl rfl)
  refine ⟨M16, ?_, L16.mono (by omega) (by omega)⟩
  unfold fL_law_1667
  have p1 : nI i + (1 : Int32) = nI (i + 1) := nI_add i 1
  rw [ck_t (okI_lo (by omega)), p1, ck_t (by rw [lZ, i_inB (by omega)]; exact decide_eq_true (by omega)), i_cl (show i + 1 < 2147483648 by omega), hx (i + 1), hce, e13, bnd2_some, ck_t hM.1, x13 (i + 1), hce, e16, bnd2_some, t16, bnd2_some, if_pos rfl]
  by_cases k0 : k = 0
  · rw [if_pos (by rw [k0]; rfl), ck_t hZ.2.2.1.1, ck_t (by rw [hZ.2.2.1.2]; decide), if_pos (d16 k0)]
  · rw [if_neg (by rw [i_0, i_eq (by omega) (by omega)]; exact k0)]
theorem law_1725 (hN : 5000 ≤ N) (hZ : LawZ Z L) (h : LI xs c Z M) (hc : c + 300 ≤ 1000000) (hL : L ≤ 2560) (hi : i + 5 ≤ L) (K : Nat → Nat → Nat → Nat → Nat → Int32 → mM → Option (Int32 × mM)) : ∃ M16, fL_law_1725 N Z K 0 8 116 129 130 (nI i) M = K 0 8 116 129 130 (nI i + (5 : Int32)) M16 ∧ LI xs (c + 27) Z M16 := by
  obtain ⟨hx, hs, ⟨A, sv, H, n, rp, r, tx, len⟩, cs, ms, ws⟩ := h
  have hC := hZ.1
  have hM := hZ.2.1
  have lZ := hZ.2.2.2.2
  have hop := op_perform (N := N) hN hC hM ws (by omega) cs
  obtain ⟨k, M13, e13, x13, k3, b, M16, e16, t16, d16, L16⟩ := law_call (N := N) (show fL_perform N Z 8 129 M = _ from rfl) hZ hx hs ms hop (cat_1 rfl rfl rfl)
  refine ⟨M16, ?_, L16.mono (by omega) (by omega)⟩
  unfold fL_law_1725
  rw [e13, bnd2_some, ck_t hM.1, e16, bnd2_some, t16, bnd2_some, if_pos rfl]
  by_cases k0 : k = 0
  · rw [if_pos (by rw [k0]; rfl), ck_t hZ.2.2.1.1, ck_t (by rw [hZ.2.2.1.2]; decide), if_pos (d16 k0)]
  · rw [if_neg (by rw [i_0, i_eq (by omega) (by omega)]; exact k0)]
theorem law_1769 (hN : 5000 ≤ N) (hZ : LawZ Z L) (h : LI xs c Z M) (hc : c + 300 ≤ 1000000) (hL : L ≤ 2560) (hi : i + 5 ≤ L) (K : Nat → Nat → Nat → Nat → Nat → Int32 → mM → Option (Int32 × mM)) : ∃ M16, fL_law_1769 N Z K 0 8 116 129 130 (nI i) M = K 0 8 116 129 130 (nI i + (5 : Int32)) M16 ∧ LI xs (c + 27) Z M16 := by
  obtain ⟨hx, hs, ⟨A, sv, H, n, rp, r, tx, len⟩, cs, ms, ws⟩ := h
  have hC := hZ.1
  have hM := hZ.2.1
  have lZ := hZ.2.2.2.2
  have hop := op_undo (N := N) hN hC hM ws cs
  obtain ⟨k, M13, e13, x13, k3, b, M16, e16, t16, d16, L16⟩ := law_call (N := N) (show fL_undo N Z 8 129 M = _ from rfl) hZ hx hs ms hop (cat_1 rfl rfl rfl)
  refine ⟨M16, ?_, L16.mono (by omega) (by omega)⟩
  unfold fL_law_1769
  rw [e13, bnd2_some, ck_t hM.1, e16, bnd2_some, t16, bnd2_some, if_pos rfl]
  by_cases k0 : k = 0
  · rw [if_pos (by rw [k0]; rfl), ck_t hZ.2.2.1.1, ck_t (by rw [hZ.2.2.1.2]; decide), if_pos (d16 k0)]
  · rw [if_neg (by rw [i_0, i_eq (by omega) (by omega)]; exact k0)]
theorem law_1813 (hN : 5000 ≤ N) (hZ : LawZ Z L) (h : LI xs c Z M) (hc : c + 300 ≤ 1000000) (hL : L ≤ 2560) (hi : i + 5 ≤ L) (K : Nat → Nat → Nat → Nat → Nat → Int32 → mM → Option (Int32 × mM)) : ∃ M16, fL_law_1813 N Z K 0 8 116 129 130 (nI i) M = K 0 8 116 129 130 (nI i + (5 : Int32)) M16 ∧ LI xs (c + 27) Z M16 := by
  obtain ⟨hx, hs, ⟨A, sv, H, n, rp, r, tx, len⟩, cs, ms, ws⟩ := h
  have hC := hZ.1
  have hM := hZ.2.1
  have lZ := hZ.2.2.2.2
  obtain ⟨w2, ⟨M1, e1, cl, cs1⟩, mk⟩ := op_save (N := N) hN hC hM ws cs
  obtain ⟨M3, e3, mo, ms3⟩ := mk M1 (ms.cl cl)
  refine ⟨M3, ?_, fun j => ?_, stat_lo hs (fun q hq j => ?_), _, cs1.mo mo, ms3, w2.mono (by omega) (by omega)⟩
  · unfold fL_law_1813
    rw [ck_t hC.1, e1, bnd2_some, ck_t hM.1, e3, bnd2_some, if_pos rfl]
  · rw [mo.1 0 (by omega), cl 0 (by omega)]; exact hx j
  · rw [mo.1 q (by omega), cl q (by omega)]
theorem law_1826 (hN : 5000 ≤ N) (hZ : LawZ Z L) (h : LI xs c Z M) (hc : c + 300 ≤ 1000000) (hL : L ≤ 2560) (hi : i + 5 ≤ L) (K : Nat → Nat → Nat → Nat → Nat → Int32 → mM → Option (Int32 × mM)) : ∃ M16, fL_law_1826 N Z K 0 8 116 129 130 (nI i) M = K 0 8 116 129 130 (nI i + (5 : Int32)) M16 ∧ LI xs (c + 27) Z M16 := by
  obtain ⟨hx, hs, ⟨A, sv, H, n, rp, r, tx, len⟩, cs, ms, ws⟩ := h
  have hC := hZ.1
  have hM := hZ.2.1
  have lZ := hZ.2.2.2.2
  have hop := op_restore (N := N) hN hC hM ws cs
  obtain ⟨k, M13, e13, x13, k3, b, M16, e16, t16, d16, L16⟩ := law_call (N := N) (show fL_restore N Z 8 129 M = _ from rfl) hZ hx hs ms hop (cat_1 rfl rfl rfl)
  refine ⟨M16, ?_, L16.mono (by omega) (by omega)⟩
  unfold fL_law_1826
  rw [e13, bnd2_some, ck_t hM.1, e16, bnd2_some, t16, bnd2_some, if_pos rfl]
  by_cases k0 : k = 0
  · rw [if_pos (by rw [k0]; rfl), ck_t hZ.2.2.1.1, ck_t (by rw [hZ.2.2.1.2]; decide), if_pos (d16 k0)]
  · rw [if_neg (by rw [i_0, i_eq (by omega) (by omega)]; exact k0)]
end LW
