/-! ===== LAYER 3: calls: undo, save, restore ===== -/
section OB
variable {N : Nat} {Z : mZ} {M : mM} {A : Row} {c : Nat} {sv : Option Row} {H : Nat → Row} {n : Nat} {rp : Nat → Nat × Nat} {r : Nat} {tx : Nat → Nat} {len : Nat}
theorem m_back37 (hM : ModAt Z) {m : Nat} (hm : m < 8) {M : mM} (h6 : M.1 116 6 = nI m) : ∀ (j i fu : Nat), i + j = 121 → j < fu →
    fX9_undo_37 N Z fu 116 (nI i) (fillA M 117 (fun j => M.1 121 (121 * m + j)) i) = some (nI m, fillA M 117 (fun j => M.1 121 (121 * m + j)) 121) := by
  obtain ⟨o1, ⟨r0, -, -, -, r5, -⟩, ⟨g4, g5, g6⟩, -, -, -, ⟨a4, a5, a6⟩, -⟩ := hM
  intro j
  induction j with
  | zero =>
    intro i fu h2 h3
    obtain ⟨fu, rfl⟩ : ∃ q, fu = q + 1 := ⟨fu - 1, by omega⟩
    have hi : i = 121 := by omega
    subst hi
    rw [fX9_undo_37, if_pos (by decide), ck_t o1, fillA_ne (by omega), h6]
  | succ j ih =>
    intro i fu h2 h3
    obtain ⟨fu, rfl⟩ : ∃ q, fu = q + 1 := ⟨fu - 1, by omega⟩
    have hi := ih (i + 1) fu (by omega) (by omega)
    have q : (121 : Int32) * nI m + nI i = nI (121 * m + i) := by rw [i_121, pk_mul, nI_add]
    rw [fX9_undo_37, if_neg (by rw [i_121, i_le (by omega) (by omega)]; omega), ck_t o1, r0, bnd1_some, r5, bnd1_some, ck_t a5, fillA_ne (show (116 : Nat) ≠ 117 by omega), h6, q, a6, ck_t (by rw [i_inB (by omega)]; exact decide_eq_true (by omega)), ck_t g4, g6, ck_t (by rw [i_inB (by omega)]; exact decide_eq_true (by omega)), i_cl (by omega), i_cl (by omega), fillA_ne (show (121 : Nat) ≠ 117 by omega), fillA_s (g := fun j => M.1 121 (121 * m + j)) rfl, nI_1]
    exact hi
theorem op_undo (hN : 5000 ≤ N) (hC : ClsAt Z) (hM : ModAt Z) (w : WFs c A sv H n) (h : CI M A sv H n rp r tx len) : OpOK M (A, sv, H, n, rp, r, tx, len) c (fX8_undo N Z 8 M) (fX9_undo N Z 116) (fun _ => ISE) := by
  have hS : CS M (A, sv, H, n, rp, r, tx, len) := h
  have wS : WS c (A, sv, H, n, rp, r, tx, len) := w
  obtain ⟨g0, g1, g2, g3, g4, g5⟩ := h
  have hn8 : n ≤ 8 := by obtain ⟨nx, a1, -⟩ := g3; exact a1
  have n0 : M.1 27 0 = nI n := by obtain ⟨nx, -, -, a3, -⟩ := g3; exact a3
  obtain ⟨o8, ⟨r0, r1, r2, r4, r5, r6, r7, r8, r9, r10⟩, ⟨p9, p15, p21⟩, hH, -, -, -, -, hD, -⟩ := hC
  have hH' : HistAt Z := hH
  have gm := hM
  obtain ⟨o1, -⟩ := hM
  by_cases hn : n = 0
  · refine OpOK.of_no (k := 1) ⟨by omega, by omega, by decide +kernel⟩ wS (CK.bad hS ?_) (MK.bad (fun M1 hM1 => ?_))
    · unfold fX8_undo
      rw [ck_t o8, r4, bnd1_some, ck_t hH.1, if_pos (by rw [n0, hn]; rfl)]; try rfl
    · have s6 : M1.1 116 6 = nI n := hM1.2.2.1.2.1
      unfold fX9_undo
      rw [ck_t o1, if_pos (by rw [s6, hn]; rfl)]
      unfold fX9_undo_13
      rw [ck_t o1, ck_t o1, sI_same, if_neg (by decide)]; try rfl
  · obtain ⟨M1, x1, x2, x3, x4, x5⟩ := h_takeBack (N := N) hN hH' p9 g3 (by omega)
    have i9 : ∀ a, inP 9 a → 9 ≤ a ∧ a ≤ 14 := fun a e => ⟨e.1, e.2⟩
    have dj : ∀ a j, ((a = 27 ∧ j < 2) ∨ inP 9 a) → (a = 27 ∨ (9 ≤ a ∧ a ≤ 14)) := fun a j e => by
      rcases e with e | e
      · omega
      · have := i9 a e; omega
    have fD : Fr (fun a j => a = 93) M1 (sI M1 93 2 (0 : Int32)) := Fr.put (P := fun a j => a = 93) rfl
    have nd : ∀ a j, ¬ (a = 27 ∨ (9 ≤ a ∧ a ≤ 14)) → ¬ ((a = 27 ∧ j < 2) ∨ inP 9 a) := fun a j q e => q (dj a j e)
    have I : CI (sI M1 93 2 (0 : Int32)) (H (n - 1)) sv H (n - 1) rp r tx len := by
      refine ⟨x3.fr fD (fun a j b1 b2 => by omega), Or.inl (sI_same _ _ _ _), (g2.fr x5 (nd _ _ (by omega)) (fun a j b1 b2 => nd _ _ (by omega))).fr fD (by omega) (fun a j b1 b2 => by omega), x2.fr fD (by omega) (by omega) (fun a j b1 b2 => by omega), (g4.fr x5 (fun a j b1 b2 => nd _ _ (by omega))).fr fD (fun a j b1 b2 => by omega), ?_⟩
      obtain ⟨q, hq⟩ := g5
      exact ⟨q, (hq.fr x5 (nd _ _ (by omega)) (nd _ _ (by omega)) (fun j => nd _ _ (by omega))).fr fD (by omega) (by omega) (fun j => by omega)⟩
    have wU : WS c (H (n - 1), sv, H, n - 1, rp, r, tx, len) := ⟨w.2.2 (n - 1) (by omega), w.2.1, fun i hi => w.2.2 i (by have : i < n - 1 := hi; omega)⟩
    refine OpOK.of_yes (σ' := (H (n - 1), sv, H, n - 1, rp, r, tx, len)) (nI (n - 1)) wU ⟨_, ?_, (x5.cl (fun a j e => by have := dj a j e; omega)).trans (fD.cl (fun a j e => by omega)), I⟩ (fun M2 hM2 => ?_)
    · unfold fX8_undo
      rw [ck_t o8, r4, bnd1_some, ck_t hH.1, n0, if_neg (by rw [i_0, i_eq (by omega) (by omega)]; exact hn), r0, bnd1_some, x1, bnd2_some, r9, bnd1_some, ck_t hD.1, sI_ne _ _ (show ¬ ((27 : Nat) = 93 ∧ (0 : Nat) = 2) by omega), x4]
      rfl
    · have s6 : M2.1 116 6 = nI n := hM2.2.2.1.2.1
      have sH := hM2.2.2.1.2.2
      obtain ⟨M3, hM3⟩ : ∃ M3, M3 = sI (sI M2 116 9 (0 : Int32)) 116 6 (nI (n - 1)) := ⟨_, rfl⟩
      have f3 : Fr (fun a j => a = 116 ∧ (j = 9 ∨ j = 6)) M2 M3 := by rw [hM3]; exact (Fr.put (P := fun a j => a = 116 ∧ (j = 9 ∨ j = 6)) ⟨rfl, Or.inl rfl⟩).trans (Fr.put ⟨rfl, Or.inr rfl⟩)
      have h63 : M3.1 116 6 = nI (n - 1) := by rw [hM3, sI_same]
      have e37 := m_back37 (N := N) (Z := Z) gm (m := n - 1) (by omega) h63 121 0 N (by omega) (by omega)
      rw [fillA_0] at e37
      obtain ⟨M4, hM4⟩ : ∃ M4, M4 = fillA M3 117 (fun j => M3.1 121 (121 * (n - 1) + j)) 121 := ⟨_, rfl⟩
      rw [← hM4] at e37
      have f4 : Fr (fun a j => a = 117) M3 M4 := by rw [hM4]; exact (Same.fill (S := fun a => a = 117) rfl).fr
      have R4 : RowAt M4 117 (H (n - 1)) := fun j hj => by
        rw [hM4, fillA_in hj]
        show M3.1 121 (121 * (n - 1) + j) = _
        rw [f3.1 _ _ (by omega)]
        exact sH (n - 1) (by show n - 1 < n; omega) j hj
      refine ⟨nI (n - 1), M4, ?_, (f3.mo (fun a j e => by omega)).trans (f4.mo (fun a j e => by omega)), ?_, fun v' e => (by cases e; rfl), R4, ?_⟩
      · unfold fX9_undo
        rw [ck_t o1, s6, if_neg (by rw [i_0, i_eq (by omega) (by omega)]; exact hn)]
        unfold fX9_undo_13
        rw [ck_t o1, ck_t o1, sI_same, if_pos (by decide), sI_ne _ _ (show ¬ ((116 : Nat) = 116 ∧ (6 : Nat) = 9) by omega), s6, show nI n - (1 : Int32) = nI (n - 1) from i_sub (b := 1) (by omega), ← hM3]
        exact e37
      · rw [f4.1 _ _ (by omega), hM3, sI_ne _ _ (by omega), sI_same]; rfl
      · obtain ⟨k1, k2, k3, k4⟩ := hM2.2
        refine MR.fr (P := fun a j => a = 117) (⟨k1.fr f3 (by omega) (fun j => by omega), ⟨by show n - 1 ≤ 8; omega, h63, fun i hi j hj => ?_⟩, k3.fr f3 (by omega) (fun j => by omega), ?_⟩ : MR M3 sv H (n - 1) rp r tx len) f4 (fun a j e => Or.inl e)
        · rw [f3.1 _ _ (by omega)]
          exact sH i (by have : i < n - 1 := hi; show i < n; omega) j hj
        · obtain ⟨q, hq⟩ := k4
          exact ⟨q, hq.fr f3 (by omega) (by omega) (fun j => by omega)⟩
/-- save: no refusal -/
theorem op_save (hN : 5000 ≤ N) (hC : ClsAt Z) (hM : ModAt Z) (w : WFs c A sv H n) (h : CI M A sv H n rp r tx len) :
    WS c (A, some A, H, n, rp, r, tx, len) ∧ (∃ M1, fX8_save N Z 8 M = some (nI (A 0), M1) ∧ Cl M M1 ∧ CS M1 (A, some A, H, n, rp, r, tx, len)) ∧
    ∀ M2, MS M2 (A, sv, H, n, rp, r, tx, len) → ∃ M3, fX9_save N Z 116 M2 = some (nI (A 0), M3) ∧ Mo M2 M3 ∧ MS M3 (A, some A, H, n, rp, r, tx, len) := by
  obtain ⟨g0, g1, g2, g3, g4, g5⟩ := h
  obtain ⟨o8, ⟨r0, r1, r2, r4, r5, r6, r7, r8, r9, r10⟩, ⟨p9, p15, p21⟩, -⟩ := hC
  obtain ⟨o1, ⟨m0, m1, -⟩, ⟨a4, a5, a6⟩, ⟨b4, b5, b6⟩, -⟩ := hM
  refine ⟨⟨w.1, fun S hS => by cases hS; exact w.1, w.2.2⟩, ?_, fun M2 hM2 => ?_⟩
  · obtain ⟨M1, hM1⟩ : ∃ M1, M1 = sI (cpM M 21 9) 8 3 (1 : Int32) := ⟨_, rfl⟩
    have f1 : Fr (fun a j => inP 21 a ∨ (a = 8 ∧ j = 3)) M M1 := by
      rw [hM1]; exact (cpM_same.fr.mono (fun a j e => Or.inl e)).trans (Fr.put (Or.inr ⟨rfl, rfl⟩))
    have nd : ∀ a j, ¬ ((21 ≤ a ∧ a ≤ 26) ∨ a = 8) → ¬ (inP 21 a ∨ (a = 8 ∧ j = 3)) := fun a j q e => q (by
      rcases e with e | e
      · exact Or.inl ⟨e.1, e.2⟩
      · exact Or.inr e.1)
    have R21 : RelP M1 21 A := by
      rw [hM1]; exact (cpM_rel g0).fr (Fr.put (P := fun a j => a = 8) rfl) (fun a j b1 b2 => by omega)
    have R9 : RelP M1 9 A := g0.fr f1 (fun a j b1 b2 => nd _ _ (by omega))
    refine ⟨M1, ?_, f1.cl (fun a j e => by
      rcases e with e | e
      · have := e.1; have := e.2; omega
      · omega), R9, ?_, ⟨?_, fun S hS => by cases hS; exact R21⟩, g3.fr f1 (nd _ _ (by omega)) (nd _ _ (by omega)) (fun a j b1 b2 => nd _ _ (by omega)), g4.fr f1 (fun a j b1 b2 => nd _ _ (by omega)), ?_⟩
    · unfold fX8_save
      rw [ck_t o8, r2, bnd1_some, r0, bnd1_some, ck_t p21.1, k_copy hN p21 p9 (by omega), bnd2_some, ck_t p9.1, ← hM1, R9.1]
    · have s : Same (fun a => (21 ≤ a ∧ a ≤ 26) ∨ a = 8) M M1 := f1.same (fun a j e => by
        rcases e with e | e
        · exact Or.inl ⟨e.1, e.2⟩
        · exact Or.inr e.1)
      exact g1.same s (by omega) (by omega)
    · rw [hM1, sI_same, if_neg (fun e => by cases e)]
    · obtain ⟨q, hq⟩ := g5
      exact ⟨q, hq.fr f1 (nd _ _ (by omega)) (nd _ _ (by omega)) (fun j => nd _ _ (by omega))⟩
  · obtain ⟨M3, hM3⟩ : ∃ M3, M3 = sI (sI M2 116 9 (0 : Int32)) 116 4 (1 : Int32) := ⟨_, rfl⟩
    have f3 : Fr (fun a j => a = 116 ∧ (j = 9 ∨ j = 4)) M2 M3 := by rw [hM3]; exact (Fr.put (P := fun a j => a = 116 ∧ (j = 9 ∨ j = 4)) ⟨rfl, Or.inl rfl⟩).trans (Fr.put ⟨rfl, Or.inr rfl⟩)
    obtain ⟨M4, hM4⟩ : ∃ M4, M4 = fillA M3 118 (M3.1 117) 121 := ⟨_, rfl⟩
    have f4 : Fr (fun a j => a = 118) M3 M4 := by rw [hM4]; exact (Same.fill (S := fun a => a = 118) rfl).fr
    have R3 : RowAt M3 117 A := RowAt.fr hM2.1 f3 (fun j => by omega)
    have R4 : RowAt M4 117 A := R3.fr f4 (fun j => by omega)
    have R8 : RowAt M4 118 A := by rw [hM4]; exact RowAt.fill R3
    obtain ⟨k1, k2, k3, k4⟩ := hM2.2
    refine ⟨M4, ?_, (f3.mo (fun a j e => by omega)).trans (f4.mo (fun a j e => by omega)), R4, ⟨?_, fun S hS => by cases hS; exact R8⟩, (k2.fr f3 (by omega) (fun j => by omega)).fr f4 (by omega) (fun j => by omega), (k3.fr f3 (by omega) (fun j => by omega)).fr f4 (by omega) (fun j => by omega), ?_⟩
    · unfold fX9_save
      rw [ck_t o1, m0, bnd1_some, m1, bnd1_some, ← hM3, m_copies hN a5 a6 b4 b6 (by omega), bnd2_some, ← hM4, ck_t a5, ck_t (by rw [a6]; decide), cl_0, R4 0 (by omega)]
    · rw [f4.1 _ _ (by omega), hM3, sI_same, if_neg (fun e => by cases e)]
    · obtain ⟨q, hq⟩ := k4
      exact ⟨q, (hq.fr f3 (by omega) (by omega) (fun j => by omega)).fr f4 (by omega) (by omega) (fun j => by omega)⟩
theorem op_restore (hN : 5000 ≤ N) (hC : ClsAt Z) (hM : ModAt Z) (w : WFs c A sv H n) (h : CI M A sv H n rp r tx len) : OpOK M (A, sv, H, n, rp, r, tx, len) c (fX8_restore N Z 8 M) (fX9_restore N Z 116) (fun _ => ISE) := by
  have hS : CS M (A, sv, H, n, rp, r, tx, len) := h
  have wS : WS c (A, sv, H, n, rp, r, tx, len) := w
  obtain ⟨g0, g1, g2, g3, g4, g5⟩ := h
  obtain ⟨o8, ⟨r0, r1, r2, r4, r5, r6, r7, r8, r9, r10⟩, ⟨p9, p15, p21⟩, hH, -, -, -, -, hD, -⟩ := hC
  obtain ⟨o1, ⟨m0, m1, -⟩, ⟨a4, a5, a6⟩, ⟨b4, b5, b6⟩, -⟩ := hM
  cases sv with
  | none =>
    have s0 : M.1 8 3 = 0 := by have := g2.1; rw [if_pos rfl] at this; exact this
    refine OpOK.of_no (k := 1) ⟨by omega, by omega, by decide +kernel⟩ wS (CK.bad hS ?_) (MK.bad (fun M1 hM1 => ?_))
    · unfold fX8_restore
      rw [ck_t o8, if_pos s0]; try rfl
    · have s4 : M1.1 116 4 = 0 := by
        have q : M1.1 116 4 = (if (none : Option Row) = none then 0 else 1) := hM1.2.1.1
        rw [if_pos rfl] at q; exact q
      unfold fX9_restore
      rw [ck_t o1, if_pos s4]
      unfold fX9_restore_13
      rw [ck_t o1, ck_t o1, sI_ne _ _ (show ¬ ((116 : Nat) = 116 ∧ (4 : Nat) = 9) by omega), if_pos s4]; try rfl
  | some S =>
    have s0 : M.1 8 3 = 1 := by have := g2.1; rw [if_neg (fun e => by cases e)] at this; exact this
    have RS := g2.2 S rfl
    obtain ⟨M1, hM1⟩ : ∃ M1, M1 = sI (cpM M 9 21) 27 0 (0 : Int32) := ⟨_, rfl⟩
    obtain ⟨M2, hM2⟩ : ∃ M2, M2 = sI M1 93 2 (0 : Int32) := ⟨_, rfl⟩
    have f0 : Fr (fun a j => inP 9 a) M (cpM M 9 21) := cpM_same.fr
    have nd : ∀ a, ¬ (9 ≤ a ∧ a ≤ 14) → ¬ inP 9 a := fun a q e => q ⟨e.1, e.2⟩
    have f1 : Fr (fun a j => a = 27 ∧ j = 0) (cpM M 9 21) M1 := by rw [hM1]; exact Fr.put (P := fun a j => a = 27 ∧ j = 0) ⟨rfl, rfl⟩
    have f2 : Fr (fun a j => a = 93 ∧ j = 2) M1 M2 := by rw [hM2]; exact Fr.put (P := fun a j => a = 93 ∧ j = 2) ⟨rfl, rfl⟩
    have c1 : CHs M1 H 0 := by
      rw [hM1]; exact (g3.fr f0 (nd _ (by omega)) (nd _ (by omega)) (fun a j b1 b2 => nd _ (by omega))).zero
    have R9 : RelP M2 9 S := ((cpM_rel RS).fr f1 (fun a j b1 b2 => by omega)).fr f2 (fun a j b1 b2 => by omega)
    have I : CI M2 S (some S) H 0 rp r tx len := by
      refine ⟨R9, Or.inl (by rw [hM2, sI_same]), ((g2.fr f0 (nd _ (by omega)) (fun a j b1 b2 => nd _ (by omega))).fr f1 (by omega) (fun a j b1 b2 => by omega)).fr f2 (by omega) (fun a j b1 b2 => by omega), c1.fr f2 (by omega) (by omega) (fun a j b1 b2 => by omega), ((g4.fr f0 (fun a j b1 b2 => nd _ (by omega))).fr f1 (fun a j b1 b2 => by omega)).fr f2 (fun a j b1 b2 => by omega), ?_⟩
      obtain ⟨q, hq⟩ := g5
      exact ⟨q, ((hq.fr f0 (nd _ (by omega)) (nd _ (by omega)) (fun j => nd _ (by omega))).fr f1 (by omega) (by omega) (fun j => by omega)).fr f2 (by omega) (by omega) (fun j => by omega)⟩
    have wR : WS c (S, some S, H, 0, rp, r, tx, len) := ⟨w.2.1 S rfl, w.2.1, fun i hi => absurd hi (Nat.not_lt_zero i)⟩
    refine OpOK.of_yes (σ' := (S, some S, H, 0, rp, r, tx, len)) (nI (S 0)) wR ⟨M2, ?_, ((f0.cl (fun a j e => by have := e.1; have := e.2; omega)).trans (f1.cl (fun a j e => by omega))).trans (f2.cl (fun a j e => by omega)), I⟩ (fun M3 hM3 => ?_)
    · unfold fX8_restore
      rw [ck_t o8, if_neg (by rw [s0]; decide), r0, bnd1_some, r2, bnd1_some, ck_t p9.1, k_copy hN p9 p21 (by omega), bnd2_some, r4, bnd1_some, ck_t hH.1]
      unfold fX2_forget
      rw [ck_t hH.1, bnd2_some, r9, bnd1_some, ck_t hD.1, ← hM1, ← hM2, R9.1]
      rfl
    · have s4 : M3.1 116 4 = 1 := by
        have q : M3.1 116 4 = (if (some S : Option Row) = none then 0 else 1) := hM3.2.1.1
        rw [if_neg (fun e => by cases e)] at q; exact q
      have R8 : RowAt M3 118 S := hM3.2.1.2 S rfl
      obtain ⟨M4, hM4⟩ : ∃ M4, M4 = sI M3 116 9 (0 : Int32) := ⟨_, rfl⟩
      have k4 : Fr (fun a j => a = 116 ∧ j = 9) M3 M4 := by rw [hM4]; exact Fr.put (P := fun a j => a = 116 ∧ j = 9) ⟨rfl, rfl⟩
      have q4 : M4.1 116 4 = 1 := by rw [k4.1 _ _ (by omega)]; exact s4
      obtain ⟨M5, hM5⟩ : ∃ M5, M5 = fillA M4 117 (M4.1 118) 121 := ⟨_, rfl⟩
      have k5 : Fr (fun a j => a = 117) M4 M5 := by rw [hM5]; exact (Same.fill (S := fun a => a = 117) rfl).fr
      obtain ⟨M6, hM6⟩ : ∃ M6, M6 = sI M5 116 6 (0 : Int32) := ⟨_, rfl⟩
      have k6 : Fr (fun a j => a = 116 ∧ j = 6) M5 M6 := by rw [hM6]; exact Fr.put (P := fun a j => a = 116 ∧ j = 6) ⟨rfl, rfl⟩
      have R4 : RowAt M4 118 S := R8.fr k4 (fun j => by omega)
      have R5 : RowAt M5 117 S := by rw [hM5]; exact RowAt.fill R4
      have R6 : RowAt M6 117 S := R5.fr k6 (fun j => by omega)
      obtain ⟨u1, u2, u3, u4⟩ := hM3.2
      refine ⟨nI (S 0), M6, ?_, ((k4.mo (fun a j e => by omega)).trans (k5.mo (fun a j e => by omega))).trans (k6.mo (fun a j e => by omega)), ?_, fun v' e => (by cases e; rfl), R6, ((u1.fr k4 (by omega) (fun j => by omega)).fr k5 (by omega) (fun j => by omega)).fr k6 (by omega) (fun j => by omega), ⟨Nat.zero_le _, by rw [hM6, sI_same]; rfl, fun i hi => absurd hi (Nat.not_lt_zero i)⟩, ((u3.fr k4 (by omega) (fun j => by omega)).fr k5 (by omega) (fun j => by omega)).fr k6 (by omega) (fun j => by omega), ?_⟩
      · unfold fX9_restore
        rw [ck_t o1, if_neg (by rw [s4]; decide)]
        unfold fX9_restore_13
        rw [ck_t o1, ck_t o1, ← hM4, if_neg (by rw [q4]; decide), m1, bnd1_some, m0, bnd1_some, m_copies hN b5 b6 a4 a6 (by omega), bnd2_some, ck_t a5, ck_t (by rw [a6]; decide), cl_0, ← hM5, ← hM6, R6 0 (by omega)]
      · rw [k6.1 _ _ (by omega), k5.1 _ _ (by omega), hM4, sI_same]; rfl
      · obtain ⟨q, hq⟩ := u4
        exact ⟨q, ((hq.fr k4 (by omega) (by omega) (fun j => by omega)).fr k5 (by omega) (by omega) (fun j => by omega)).fr k6 (by omega) (by omega) (fun j => by omega)⟩
end OB
