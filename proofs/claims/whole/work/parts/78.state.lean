/-! ===== LAYER 3: calls that change the state ===== -/
def bgA (i : Nat) : Int32 := if 5 ≤ i ∧ i ≤ 10 then 60 else 0
def begMM (M : mM) (b : Int32) : mM := sI (sI (sI (sI (sI (fillA M 117 bgA 121) 117 0 b) 117 1 (3 : Int32)) 117 2 (2 : Int32)) 117 3 (600 : Int32)) 116 6 (0 : Int32)
theorem WF.low {A : Row} {c i v : Nat} (w : WF A c) (hi : 1 ≤ i ∧ i ≤ 10) (h1 : i = 1 → 1 ≤ v ∧ v ≤ 4) (h2 : i = 2 → v ≤ 3) (h3 : i = 3 → 100 ≤ v ∧ v ≤ 2000) (h4 : i = 4 → v ≤ c) (h5 : 5 ≤ i → v ≤ 1000 + 2 * c) : WF (setA A i v) c := by
  obtain ⟨w1, w2, w3, w4, w5, w6, w7, w8, w9, w10, w11, w12, w13, w14⟩ := w
  have e : ∀ j, j ≠ i → setA A i v j = A j := fun j hj => setA_ne hj
  have ep : ∀ j, aPH (setA A i v) j = aPH A j := fun j => by
    unfold aPH; rw [aL_congr (e 0 (by omega)), e _ (by omega), e _ (by omega)]
  refine ⟨?_, ?_, ?_, ?_, ?_, ?_, ?_, ?_, ?_, ?_, ?_, ?_, ?_, w14⟩
  · rw [e 0 (by omega)]; exact w1
  · by_cases q : i = 1
    · rw [q, setA_eq]; exact h1 q
    · rw [e 1 (fun x => q x.symm)]; exact w2
  · by_cases q : i = 2
    · rw [q, setA_eq]; exact h2 q
    · rw [e 2 (fun x => q x.symm)]; exact w3
  · by_cases q : i = 3
    · rw [q, setA_eq]; exact h3 q
    · rw [e 3 (fun x => q x.symm)]; exact w4
  · intro j hj; rw [e _ (by omega)]; exact w5 j hj
  · intro j hj hj2; rw [e 0 (by omega)] at hj; rw [e _ (by omega)]; exact w6 j hj hj2
  · intro j l hj hl; rw [e _ (by omega)]; exact w7 j l hj hl
  · intro j l hj hl hq; rw [e _ (by omega)] at hq ⊢; exact w8 j l hj hl hq
  · intro j hj; rw [e _ (by omega), e _ (by omega)]; exact w9 j hj
  · intro j hj; rw [e _ (by omega), e _ (by omega)]; exact w10 j hj
  · intro j hj; rw [e _ (by omega), ep, e 0 (by omega)]; exact w11 j hj
  · by_cases q : i = 4
    · rw [q, setA_eq]; exact h4 q
    · rw [e 4 (fun x => q x.symm)]; exact w12
  · intro k hk
    by_cases q : i = 5 + k
    · rw [q, setA_eq]; exact h5 (by omega)
    · rw [e _ (fun x => q x.symm)]; exact w13 k hk
theorem setA_back {A : Row} {i v : Nat} : setA (setA A i v) i (A i) = A := by
  funext j; unfold setA
  by_cases q : j = i
  · rw [if_pos q, q]
  · rw [if_neg q, if_neg q]
def loR (k : Nat) : Nat := if k = 0 then 1 else if k = 1 then 0 else 100
def hiR (k : Nat) : Nat := if k = 0 then 4 else if k = 1 then 3 else 2000
theorem wr_cases {a b d : Option Nat} {M : mM} : (a = none ∧ b = none ∧ d = none ∧ wrR 6 M a (wrR 7 M b (wrR 8 M d (some (0, M)))) = some (0, M)) ∨ (¬ (a = none ∧ b = none ∧ d = none) ∧ ∃ k p, ¬ k = (0 : Int32) ∧ wrR 6 M a (wrR 7 M b (wrR 8 M d (some (0, M)))) = some (k, wrM M p)) := by
  cases a with
  | some p => exact Or.inr ⟨fun h => (by cases h.1), 6, p, by decide, rfl⟩
  | none =>
    cases b with
    | some p => exact Or.inr ⟨fun h => (by cases h.2.1), 7, p, by decide, rfl⟩
    | none =>
      cases d with
      | some p => exact Or.inr ⟨fun h => (by cases h.2.2), 8, p, by decide, rfl⟩
      | none => exact Or.inl ⟨rfl, rfl, rfl, rfl⟩
theorem chN_all : ∀ i, i < 256 → ∀ j, j < 256 → chN (nI (256 * i + j)) = nI (256 * i + j) := by decide +kernel
theorem chN_id {ch : Nat} (h : ch < 65536) : chN (nI ch) = nI ch := by
  have := chN_all (ch / 256) (by omega) (ch % 256) (by omega)
  rw [show 256 * (ch / 256) + ch % 256 = ch by omega] at this
  exact this
section OS
variable {N : Nat} {Z : mZ} {M : mM} {A : Row} {c : Nat} {sv : Option Row} {H : Nat → Row} {n : Nat} {rp : Nat → Nat × Nat} {r : Nat} {tx : Nat → Nat} {len : Nat}
theorem m_begins2 (hM : ModAt Z) {b : Int32} : ∀ (j i fu : Nat), i + j = 121 → j < fu → fX9_begins_2 N Z fu 116 b (nI i) (fillA M 117 bgA i) = some ((), begMM M b) := by
  obtain ⟨o1, ⟨o2, -⟩, ⟨g4, g5, g6⟩, -⟩ := hM
  intro j
  induction j with
  | zero =>
    intro i fu h2 h3
    obtain ⟨fu, rfl⟩ : ∃ q, fu = q + 1 := ⟨fu - 1, by omega⟩
    have hi : i = 121 := by omega
    subst hi
    rw [fX9_begins_2, if_pos (by decide), ck_t o1, o2, bnd1_some, ck_t g4, g6, ck_t (by decide), ck_t (by decide), ck_t (by decide), ck_t (by decide), cl_0, cl_1, cl_2, cl_3]
    rfl
  | succ j ih =>
    intro i fu h2 h3
    obtain ⟨fu, rfl⟩ : ∃ q, fu = q + 1 := ⟨fu - 1, by omega⟩
    have hi := ih (i + 1) fu (by omega) (by omega)
    have ei : fX9_in N Z (nI i) (5 : Int32) (10 : Int32) (fillA M 117 bgA i) = some (if 5 ≤ i ∧ i ≤ 10 then 1 else 0, fillA M 117 bgA i) := m_in (l := 5) (h := 10) (by omega) (by omega) (by omega)
    rw [fX9_begins_2, if_neg (by rw [i_121, i_le (by omega) (by omega)]; omega), ck_t o1, o2, bnd1_some, ei, bnd2_some, i_cl (by omega), nI_1]
    by_cases q : 5 ≤ i ∧ i ≤ 10
    · rw [if_pos q, if_neg (by decide), ck_t g4, g6, ck_t (by rw [i_inB (by omega)]; exact decide_eq_true (by omega)), fillA_s (g := bgA) (by unfold bgA; rw [if_pos q])]; exact hi
    · rw [if_neg q, if_pos rfl, ck_t g4, g6, ck_t (by rw [i_inB (by omega)]; exact decide_eq_true (by omega)), fillA_s (g := bgA) (by unfold bgA; rw [if_neg q])]; exact hi
theorem m_begins (hN : 5000 ≤ N) (hM : ModAt Z) (b : Int32) : fX9_begins N Z 116 b M = some ((), begMM M b) := by
  have h := m_begins2 (N := N) (M := M) (b := b) hM 121 0 N (by omega) (by omega)
  rw [fillA_0] at h
  exact h
theorem begMM_row (b : Nat) : RowAt (begMM M (nI b)) 117 (begR b) := by
  intro i hi
  unfold begMM
  rw [sI_ne _ _ (by omega)]
  by_cases q3 : i = 3
  · rw [q3, sI_same]; rfl
  rw [sI_ne _ _ (by omega)]
  by_cases q2 : i = 2
  · rw [q2, sI_same]; rfl
  rw [sI_ne _ _ (by omega)]
  by_cases q1 : i = 1
  · rw [q1, sI_same]; rfl
  rw [sI_ne _ _ (by omega)]
  by_cases q0 : i = 0
  · rw [q0, sI_same]; rfl
  rw [sI_ne _ _ (by omega), fillA_in hi]
  unfold bgA begR
  rw [if_neg q0, if_neg q1, if_neg q2, if_neg q3]
  split <;> rfl
theorem begMM_fr {b : Int32} : Fr (fun a j => a = 117 ∨ (a = 116 ∧ j = 6)) M (begMM M b) :=
  (((((Same.fill (S := fun x => x = 117) rfl).fr.mono (fun a j h => Or.inl h)).trans (Fr.put (Or.inl rfl))).trans (Fr.put (Or.inl rfl))).trans (Fr.put (Or.inl rfl))).trans (Fr.put (Or.inl rfl)) |>.trans (Fr.put (Or.inr ⟨rfl, rfl⟩))
theorem inP9 {a : Nat} (h : inP 9 a) : 9 ≤ a ∧ a ≤ 14 := ⟨h.1, h.2⟩
theorem op_start (hN : 5000 ≤ N) (hC : ClsAt Z) (hM : ModAt Z) (hs : Stat Z M) (w : WFs c A sv H n) (hc : c ≤ 1000000) (h : CI M A sv H n rp r tx len) (x : Int32) : OpOK M (A, sv, H, n, rp, r, tx, len) c (fX8_start N Z 8 x M) (fX9_start N Z 116 x) (fun _ => IAE) := by
  have hS : CS M (A, sv, H, n, rp, r, tx, len) := h
  have wS : WS c (A, sv, H, n, rp, r, tx, len) := w
  rcases in_cases x (lo := 4) (hi := 10) (by omega) (by omega) with ⟨v, rfl, h1, h2⟩ | ⟨e1, e2⟩
  · have wS' : WS c (begR v, sv, H, 0, rp, r, tx, len) := ⟨begR_wf h1 h2 hc, w.2.1, fun i hi => absurd hi (by show ¬ i < 0; omega)⟩
    refine OpOK.of_yes (nI (A 0)) wS' ⟨sI (sI (begM M 9 (nI v)) 27 0 0) 93 2 0, ?_, ?_, ?_⟩ (fun M1 hM1 => ?_)
    · obtain ⟨o8, ⟨r0, r1, r2, r4, r5, r6, r7, r8, r9, r10⟩, ⟨p9, -⟩, hH, -, -, -, -, hD, -⟩ := hC
      have ef : fX2_forget N Z 27 (begM M 9 (nI v)) = some ((), sI (begM M 9 (nI v)) 27 0 0) := by unfold fX2_forget; rw [ck_t hH.1]
      unfold fX8_start
      rw [if_neg (by rw [i_4, i_lt (by omega) (by omega)]; omega), if_pos (by rw [i_10, i_le (by omega) (by omega)]; exact h2), ck_t o8, r0, bnd1_some, ck_t p9.1, k_begin hN p9 hs, bnd2_some, r4, bnd1_some, ck_t hH.1, ef, bnd2_some, r9, bnd1_some, ck_t hD.1, h.1.1]
      try rfl
    · exact (begM_same.cl (fun a e => by have := inP9 e; omega)).trans ((((Fr.put (P := fun a j => a = 27 ∨ a = 93) (Or.inl rfl)).trans (Fr.put (Or.inr rfl)))).cl (fun a j e => by omega))
    · have s27 : Fr (fun a j => a = 27 ∧ j = 0) (begM M 9 (nI v)) (sI (begM M 9 (nI v)) 27 0 0) := Fr.put (P := fun a j => a = 27 ∧ j = 0) ⟨rfl, rfl⟩
      have s93 : Fr (fun a j => a = 93) (sI (begM M 9 (nI v)) 27 0 0) (sI (sI (begM M 9 (nI v)) 27 0 0) 93 2 0) := Fr.put (P := fun a j => a = 93) rfl
      have R0 : RelP (begM M 9 (nI v)) 9 (begR v) := begM_rel v
      have C0 := h.2.2.fr (begM_same (M := M) (b := 9) (n := nI v)).fr (fun a j e => by have := inP9 e; unfold onCr; omega)
      obtain ⟨g1, g2, g3, t, g4⟩ := C0
      refine ⟨(R0.fr s27 (fun a j b1 b2 e => by omega)).fr s93 (fun a j b1 b2 e => by omega), Or.inl (sI_same _ _ _ _), ?_⟩
      exact CR.fr (P := fun a j => a = 93) ⟨g1.fr s27 (by omega) (fun a j b1 b2 => by omega), g2.zero, g3.fr s27 (fun a j b1 b2 => by omega), t, g4.fr s27 (by omega) (by omega) (fun j => by omega)⟩ s93 (fun a j e => by unfold onCr; omega)
    · have t := hM1.thr (nI 0)
      obtain ⟨g1, g2, g3, q, g4⟩ := t.2
      have F := begMM_fr (M := sI M1 116 9 (nI 0)) (b := nI v)
      refine ⟨nI (A 0), begMM (sI M1 116 9 (nI 0)) (nI v), ?_, mo_thr.trans (F.mo (fun a j e => by omega)), ?_, fun v' e => (by cases e; rfl), begMM_row v, g1.fr F (by omega) (fun j => by omega), ⟨Nat.zero_le _, ?_, fun i hi => absurd hi (Nat.not_lt_zero i)⟩, g3.fr F (by omega) (fun j => by omega), q, g4.fr F (by omega) (by omega) (fun j => by omega)⟩
      · have hr := t.1 0 (by omega)
        have gm := hM
        obtain ⟨o1, ⟨o2, -⟩, ⟨g4', g5', g6'⟩, -⟩ := hM
        unfold fX9_start
        rw [show fX9_in N Z (nI v) (4 : Int32) (10 : Int32) M1 = some (1, M1) from in_yes (lo := 4) (hi := 10) h1 h2 (by omega), bnd2_some, if_neg (by decide)]
        unfold fX9_start_16
        rw [ck_t o1, ck_t o1, sI_same, if_pos (by decide), o2, bnd1_some, ck_t g5', g6', ck_t (by decide), cl_0]
        show bnd2 (fX9_begins N Z 116 (nI v) (sI M1 116 9 (nI 0))) _ = _
        rw [m_begins hN gm, bnd2_some, show (sI M1 116 9 (0 : Int32)).1 117 0 = nI (A 0) from hr]
      · rw [F.1 116 9 (by omega), sI_same]; rfl
      · show (begMM (sI M1 116 9 (nI 0)) (nI v)).1 116 6 = nI 0
        unfold begMM; rw [sI_same]; rfl
  · refine OpOK.of_no (k := 1) ⟨by omega, by omega, by decide +kernel⟩ wS (CK.bad hS ?_) (MK.bad (fun M1 hM1 => ?_))
    · unfold fX8_start; exact thr2 e2
    · unfold fX9_start
      rw [show fX9_in N Z x (4 : Int32) (10 : Int32) M1 = some (0, M1) from e1 N Z M1, bnd2_some, if_pos rfl]
      unfold fX9_start_16
      rw [ck_t hM.1, ck_t hM.1, sI_same, if_neg (by decide)]; try rfl
/-- both keep the plan, then a number of it is set -/
theorem CI.kept {M1 M2 : mM} {B : Row} (h : CI M A sv H n rp r tx len) (hH : CHs M1 (kpH H n A) (kpN n)) (h0 : M1.1 93 2 = 0) (f : Fr onK M M1) (s : Same (inP 9) M1 M2) (hB : RelP M2 9 B) : CI M2 B sv (kpH H n A) (kpN n) rp r tx len := by
  obtain ⟨g1, g2, g3, t, g4⟩ := h.2.2
  refine ⟨hB, Or.inl (by rw [s.1 93 (fun e => by have := inP9 e; omega)]; exact h0), CR.fr (P := fun a _ => inP 9 a) ⟨g1.fr f (fun q => by unfold onK at q; omega) (fun a j b1 b2 q => by unfold onK at q; omega), hH, g3.fr f (fun a j b1 b2 q => by unfold onK at q; omega), t, g4.fr f (fun q => by unfold onK at q; omega) (fun q => by unfold onK at q; omega) (fun j q => by unfold onK at q; omega)⟩ s.fr (fun a j e => by have := inP9 e; unfold onCr; omega)⟩
theorem MI.kept {M1 M2 : mM} {B : Row} (h : MI M A sv H n rp r tx len) (hP : PM M1 (kpH H n A) (kpN n)) (f : Fr onP M M1) {P : Nat → Nat → Prop} (s : Fr P M1 M2) (hd : ∀ a j, P a j → onMr a j) (hB : RowAt M2 117 B) : MI M2 B sv (kpH H n A) (kpN n) rp r tx len := by
  obtain ⟨a1, a2, a3, t, a4⟩ := h.2
  exact ⟨hB, MR.fr ⟨a1.fr f (fun q => by unfold onP at q; omega) (fun j q => by unfold onP at q; omega), hP, a3.fr f (fun q => by unfold onP at q; omega) (fun j q => by unfold onP at q; omega), t, a4.fr f (fun q => by unfold onP at q; omega) (fun q => by unfold onP at q; omega) (fun j q => by unfold onP at q; omega)⟩ s hd⟩
theorem op_stock (hN : 5000 ≤ N) (hC : ClsAt Z) (hM : ModAt Z) (w : WFs c A sv H n) (hc : c + 1 ≤ 1000000) (h : CI M A sv H n rp r tx len) (x y : Int32) : OpOK M (A, sv, H, n, rp, r, tx, len) (c + 1) (fX8_stock N Z 8 x y M) (fX9_stock N Z 116 x y) (fun k => if k = 1 then IOO else IAE) := by
  have hS : CS M (A, sv, H, n, rp, r, tx, len) := h
  have w1 := WS.mono (σ := (A, sv, H, n, rp, r, tx, len)) w (show c ≤ c + 1 by omega) hc
  rcases i32_cases x with hx | ⟨k, hk, rfl⟩
  · refine OpOK.of_no (k := 1) ⟨by omega, by omega, by decide +kernel⟩ w1 (CK.bad hS ?_) (MK.bad (fun M1 hM1 => ?_))
    · unfold fX8_stock; rw [if_pos hx]; try rfl
    · unfold fX9_stock fX9_in
      rw [if_pos hx, bnd2_some, if_pos rfl]
      unfold fX9_stock_30
      rw [ck_t hM.1, ck_t hM.1, sI_same, if_neg (by decide)]; try rfl
  by_cases hk6 : k < 6
  · rcases in_cases y (lo := 0) (hi := 999) (by omega) (by omega) with ⟨v, rfl, g1, g2⟩ | ⟨e3, e4⟩
    · have wB : WF (setA A (5 + k) v) (c + 1) := (w.1.mono (by omega) hc).low (by omega) (fun e => by omega) (fun e => by omega) (fun e => by omega) (fun e => by omega) (fun e => by omega)
      obtain ⟨M1, e1, H1, d1, f1⟩ := k_keepChange (N := N) hN hC h.1 h.2.2.2.1
      have R1 : RelP M1 9 A := h.1.fr f1 (fun a j b1 b2 q => by unfold onK at q; omega)
      have s2 : Same (inP 9) M1 (sI M1 14 k (nI v)) := Same.put ⟨by omega, by omega⟩
      refine OpOK.of_yes (nI (A (5 + k))) (w.keep hc wB) ⟨sI M1 14 k (nI v), ?_, (f1.cl (fun a j q => by unfold onK at q; omega)).trans (s2.cl (fun a e => by have := inP9 e; omega)), h.kept H1 d1 f1 s2 (R1.yard hk6 v)⟩ (fun M2 hM2 => ?_)
      · obtain ⟨o8, ⟨r0, -⟩, ⟨p9, -⟩, -⟩ := hC
        obtain ⟨o1, -, -, -, -, o6, -, -, -, -, ⟨b4, b5, b6⟩⟩ := p9
        unfold fX8_stock
        rw [if_neg (nI_pos (by omega)), if_pos (by rw [i_6, i_lt (by omega) (by omega)]; exact hk6), if_neg (nI_pos (by omega)), if_pos (by rw [i_999, i_le (by omega) (by omega)]; exact g2), ck_t o8, r0, bnd1_some, ck_t o1, o6, bnd1_some, k_at b5 (by omega) (by omega), bnd2_some, e1, bnd2_some, k_write b4 (by omega) (by omega), bnd2_some, h.1.2.2.2.2.2.2.2 k (by omega)]
        try rfl
      · have t := hM2.thr (nI 0)
        have gm := hM
        obtain ⟨o1, ⟨o2, -⟩, ⟨g4, g5, g6⟩, -⟩ := hM
        obtain ⟨M3, e5, P3, f3⟩ := m_changes (N := N) hN gm g5 g6 (by omega) (by omega) t.1 t.2.2.1
        have R3 : RowAt M3 117 A := t.1.fr f3 (fun j q => by unfold onP at q; omega)
        have f4 : Fr (fun a j => a = 117) M3 (sI M3 117 (5 + k) (nI v)) := Fr.put (P := fun a j => a = 117) rfl
        refine ⟨nI (A (5 + k)), sI M3 117 (5 + k) (nI v), ?_, (mo_thr.trans (f3.mo (fun a j q => by unfold onP at q; omega))).trans (f4.mo (fun a j e => by omega)), ?_, fun v' e => (by cases e; rfl), MI.kept (h := t) P3 f3 f4 (fun a j e => by unfold onMr; omega) (R3.set (by omega) v)⟩
        · unfold fX9_stock
          rw [show fX9_in N Z (nI k) (0 : Int32) (5 : Int32) M2 = some (1, M2) from in_yes (lo := 0) (hi := 5) (by omega) (by omega) (by omega), bnd2_some, if_neg (by decide), show fX9_in N Z (nI v) (0 : Int32) (999 : Int32) M2 = some (1, M2) from in_yes (lo := 0) (hi := 999) g1 g2 (by omega), bnd2_some, if_neg (by decide)]
          unfold fX9_stock_30
          rw [ck_t o1, ck_t o1, sI_same, if_pos (by decide), o2, bnd1_some, show fX9_changes N Z 116 117 (sI M2 116 9 (0 : Int32)) = some ((), M3) from e5, bnd2_some, ck_t g5, i_5, nI_add, g6, ck_t (by rw [i_inB (by omega)]; exact decide_eq_true (by omega)), ck_t g4, i_cl (by omega), R3 _ (by omega)]
        · rw [f4.1 116 9 (by omega), f3.1 116 9 (fun q => by unfold onP at q; omega), sI_same]; rfl
    · refine OpOK.of_no (k := 2) ⟨by omega, by omega, by decide +kernel⟩ w1 (CK.bad hS ?_) (MK.bad (fun M1 hM1 => ?_))
      · unfold fX8_stock; rw [if_neg (nI_pos (by omega)), if_pos (by rw [i_6, i_lt (by omega) (by omega)]; exact hk6)]; exact thr2 e4
      · unfold fX9_stock
        rw [show fX9_in N Z (nI k) (0 : Int32) (5 : Int32) M1 = some (1, M1) from in_yes (lo := 0) (hi := 5) (by omega) (by omega) (by omega), bnd2_some, if_neg (by decide), show fX9_in N Z y (0 : Int32) (999 : Int32) M1 = some (0, M1) from e3 N Z M1, bnd2_some, if_pos rfl]
        unfold fX9_stock_30
        rw [ck_t hM.1, ck_t hM.1, sI_same, if_neg (by decide)]; try rfl
  · refine OpOK.of_no (k := 1) ⟨by omega, by omega, by decide +kernel⟩ w1 (CK.bad hS ?_) (MK.bad (fun M1 hM1 => ?_))
    · unfold fX8_stock; rw [if_neg (nI_pos (by omega)), if_neg (by rw [i_6, i_lt (by omega) (by omega)]; exact hk6)]; try rfl
    · unfold fX9_stock
      rw [show fX9_in N Z (nI k) (0 : Int32) (5 : Int32) M1 = some (if 0 ≤ k ∧ k ≤ 5 then 1 else 0, M1) from m_in (l := 0) (h := 5) (by omega) (by omega) (by omega), if_neg (by omega), bnd2_some, if_pos rfl]
      unfold fX9_stock_30
      rw [ck_t hM.1, ck_t hM.1, sI_same, if_neg (by decide)]; try rfl
theorem rule_at (hs : Stat Z M) {k : Nat} (hk : k < 3) : M.1 2 k = nI (loR k) ∧ M.1 3 k = nI (hiR k) := by
  obtain ⟨-, -, ⟨a0, a1, a2⟩, ⟨b0, b1, b2⟩, -⟩ := hs
  rcases (show k = 0 ∨ k = 1 ∨ k = 2 by omega) with rfl | rfl | rfl
  · exact ⟨a0, b0⟩
  · exact ⟨a1, b1⟩
  · exact ⟨a2, b2⟩
theorem hiR_lt (k : Nat) : hiR k ≤ 2000 ∧ loR k ≤ 100 := by unfold hiR loR; split <;> (try split) <;> omega
theorem isRule_k {k : Nat} (hk : k < 3) (y : Int32) (M : mM) : (∀ b, fX9_in N Z y (nI (loR k)) (nI (hiR k)) M = some (b, M) → (b = 0 ∨ b = 1) → fX9_isRule N Z (nI k) y M = some (b, M)) := fun b hb h01 => by
  have hB : isB b = true := by rcases h01 with rfl | rfl <;> rfl
  unfold fX9_isRule
  rcases (show k = 0 ∨ k = 1 ∨ k = 2 by omega) with rfl | rfl | rfl
  · rw [if_pos (show nI 0 = 0 from rfl), show fX9_in N Z y (1 : Int32) (4 : Int32) M = some (b, M) from hb, bnd2_some, ck_t hB]
  · rw [if_neg (by decide), if_pos (show nI 1 = (1 : Int32) from rfl), show fX9_in N Z y (0 : Int32) (3 : Int32) M = some (b, M) from hb, bnd2_some, ck_t hB]
  · rw [if_neg (by decide), if_neg (by decide), if_pos (show nI 2 = (2 : Int32) from rfl), show fX9_in N Z y (100 : Int32) (2000 : Int32) M = some (b, M) from hb, bnd2_some]
    rcases h01 with rfl | rfl
    · rw [if_pos rfl]
    · rw [if_neg (by decide)]
theorem op_set (hN : 5000 ≤ N) (hC : ClsAt Z) (hM : ModAt Z) (hs : Stat Z M) (w : WFs c A sv H n) (hc : c + 1 ≤ 1000000) (h : CI M A sv H n rp r tx len) (x y : Int32) : OpOK M (A, sv, H, n, rp, r, tx, len) (c + 1) (fX8_set N Z 8 x y M) (fX9_set N Z 116 x y) (fun k => if k = 1 then IAE else ISE) := by
  have hS : CS M (A, sv, H, n, rp, r, tx, len) := h
  have w1 := WS.mono (σ := (A, sv, H, n, rp, r, tx, len)) w (show c ≤ c + 1 by omega) hc
  have bad14 : ∀ M1, fX9_set_14 N Z 116 x y (1 : Int32) 116 M1 = some (0, sI M1 116 9 (nI 1)) := fun M1 => by
    unfold fX9_set_14
    rw [ck_t hM.1, ck_t hM.1, sI_same, if_neg (by decide)]; try rfl
  rcases i32_cases x with hx | ⟨k, hk, rfl⟩
  · refine OpOK.of_no (k := 1) ⟨by omega, by omega, by decide +kernel⟩ w1 (CK.bad hS ?_) (MK.bad (fun M1 hM1 => ?_))
    · unfold fX8_set; rw [if_pos hx]; try rfl
    · have z : ∀ j, j < 2147483648 → ¬ x = nI j := fun j hj e => by rw [e] at hx; exact nI_pos hj hx
      unfold fX9_set fX9_isRule
      rw [if_neg (show ¬ x = (0 : Int32) from z 0 (by omega)), if_neg (show ¬ x = (1 : Int32) from z 1 (by omega)), if_neg (show ¬ x = (2 : Int32) from z 2 (by omega)), bnd2_some, if_pos rfl]; exact bad14 M1
  by_cases hk3 : k < 3
  · have hl := hiR_lt k
    have hrr := rule_at hs hk3
    have e2 := k_at (N := N) (Z := Z) (M := M) (r := 2) (i := k) (okI_lo (by omega)) (by rw [hs.1.2.1]; omega) (by rw [hs.1.2.1]; omega)
    have e3 := k_at (N := N) (Z := Z) (M := M) (r := 3) (i := k) (okI_lo (by omega)) (by rw [hs.1.2.2.1]; omega) (by rw [hs.1.2.2.1]; omega)
    rw [hrr.1] at e2
    rw [hrr.2] at e3
    rcases in_cases y (lo := loR k) (hi := hiR k) (by omega) (by omega) with ⟨v, rfl, g1, g2⟩ | ⟨e4, e5⟩
    · have wB0 : WF (setA A (1 + k) v) c := w.1.low (by omega) (fun e => by rw [show k = 0 by omega] at g1 g2; exact ⟨g1, g2⟩) (fun e => by rw [show k = 1 by omega] at g1 g2; exact g2) (fun e => by rw [show k = 2 by omega] at g1 g2; exact ⟨g1, g2⟩) (fun e => by omega) (fun e => by omega)
      have C := hC
      obtain ⟨o8, ⟨r0, r1, -⟩, ⟨p9, p15, -⟩, -⟩ := hC
      have s15 : Same (inP 15) M (sI (cpM M 15 9) 19 k (nI v)) := cpM_same.trans (Same.put ⟨by omega, by omega⟩)
      have i15 : ∀ a, inP 15 a → onSc a := fun a e => by have := e.1; have := e.2; unfold onSc; omega
      have R15 : RelP (sI (cpM M 15 9) 19 k (nI v)) 15 (setA A (1 + k) v) := (cpM_rel h.1).rule hk3 v
      have I1 := h.sc s15.fr (fun a j e => i15 a e)
      have cl1 : Cl M (sI (cpM M 15 9) 19 k (nI v)) := s15.cl (fun a e => onSc_cl (i15 a e))
      have est := k_isStable (N := N) hN p15 R15 wB0
      obtain ⟨a1, -, -, -, a5, -, -, -, -, ⟨b4, b5, b6⟩, -⟩ := p9
      have P9 : PlanAt Z 9 := C.2.2.1.1
      have q5 : Z.2.2.2 15 5 = some 19 := p15.2.2.2.2.1
      have q19 := p15.2.2.2.2.2.2.2.2.2.1
      have head : ∀ res, (if (if aUnheld (setA A (1 + k) v) = none ∧ aUnbr (setA A (1 + k) v) = none ∧ aOver (setA A (1 + k) v) = none then (1 : Int32) else 0) = 0 then some (.inr "java/lang/IllegalStateException", sT (sI (cpM M 15 9) 19 k (nI v))) else bnd2 (fX8_at N Z 13 (nI k) (sI (cpM M 15 9) 19 k (nI v))) (fun r18 M18 => bnd2 (fX8_keepChange N Z 8 M18) (fun _ M19 => bnd2 (fX8_write N Z 13 (nI k) (nI v) M19) (fun _ M20 => some (.inl r18, M20))))) = some res → fX8_set N Z 8 (nI k) (nI v) M = some res := fun res hh => by
        unfold fX8_set
        rw [if_neg (nI_pos (by omega)), if_pos (by rw [i_3, i_lt (by omega) (by omega)]; exact hk3), e2, bnd2_some, if_neg (by rw [i_lt (by omega) (by omega)]; omega), e3, bnd2_some, if_pos (by rw [i_le (by omega) (by omega)]; exact g2), ck_t o8, r1, bnd1_some, r0, bnd1_some, ck_t p15.1, k_copy hN p15 P9 (by omega), bnd2_some, q5, bnd1_some, k_write q19.1 (by rw [q19.2.2]; omega) (by rw [q19.2.2]; omega), bnd2_some, est, bnd2_some, ck_t a1, a5, bnd1_some]
        exact hh
      have hst : ∀ M2, MS M2 (A, sv, H, n, rp, r, tx, len) → ∀ res, (bnd2 (fX9_wrong N Z 116 (sI (sI M2 116 9 (nI 0)) 117 (1 + k) (nI v))) (fun r10 M10 => if r10 = 0 then fX9_set_56 N Z 116 (nI k) (nI v) (nI (A (1 + k))) (1 : Int32) M10 else fX9_set_56 N Z 116 (nI k) (nI v) (nI (A (1 + k))) (0 : Int32) M10)) = some res → fX9_set N Z 116 (nI k) (nI v) M2 = some res := fun M2 hM2 res hh => by
        have t := hM2.thr (nI 0)
        obtain ⟨o1, ⟨o2, -⟩, ⟨g4, g5, g6⟩, -⟩ := hM
        unfold fX9_set
        rw [isRule_k (N := N) (Z := Z) hk3 (nI v) M2 1 (in_yes g1 g2 (by omega)) (Or.inr rfl), bnd2_some, if_neg (by decide)]
        unfold fX9_set_14
        rw [ck_t o1, ck_t o1, sI_same, if_pos (by decide), o2, bnd1_some, ck_t g5, i_1, nI_add, g6, ck_t (by rw [i_inB (by omega)]; exact decide_eq_true (by omega)), ck_t g4, i_cl (by omega), show (sI M2 116 9 (0 : Int32)).1 117 (1 + k) = nI (A (1 + k)) from t.1 _ (by omega)]
        exact hh
      have hback : ∀ M10 x0, fX9_set_56 N Z 116 (nI k) (nI v) (nI (A (1 + k))) x0 M10 = (if x0 = 0 then bnd2 (fX9_fails N Z 116 (2 : Int32) (sI M10 117 (1 + k) (nI (A (1 + k))))) (fun r17 M17 => some (r17, M17)) else bnd2 (fX9_changes N Z 116 117 (sI M10 117 (1 + k) (nI (A (1 + k))))) (fun _ M18 => some (nI (A (1 + k)), (sI M18 117 (1 + k) (nI v))))) := fun M10 x0 => by
        obtain ⟨o1, ⟨o2, -⟩, ⟨g4, g5, g6⟩, -⟩ := hM
        unfold fX9_set_56
        rw [ck_t o1, o2, bnd1_some, ck_t g4, i_1, nI_add, g6, ck_t (by rw [i_inB (by omega)]; exact decide_eq_true (by omega)), i_cl (by omega)]
      have mid : ∀ M2, MS M2 (A, sv, H, n, rp, r, tx, len) → ∀ M10, Fr (fun a j => a = 116 ∧ j = 10) (sI (sI M2 116 9 (nI 0)) 117 (1 + k) (nI v)) M10 → MS (sI M10 117 (1 + k) (nI (A (1 + k)))) (A, sv, H, n, rp, r, tx, len) ∧ Mo M2 (sI M10 117 (1 + k) (nI (A (1 + k)))) ∧ (sI M10 117 (1 + k) (nI (A (1 + k)))).1 116 9 = nI 0 := fun M2 hM2 M10 f10 => by
        have t := hM2.thr (nI 0)
        have f1 : Fr (fun a j => a = 117 ∨ (a = 116 ∧ j = 10)) (sI M2 116 9 (nI 0)) (sI M10 117 (1 + k) (nI (A (1 + k)))) := ((Fr.put (P := fun a j => a = 117 ∨ (a = 116 ∧ j = 10)) (Or.inl rfl)).trans (f10.mono (fun a j e => Or.inr e))).trans (Fr.put (Or.inl rfl))
        have R10 : RowAt M10 117 (setA A (1 + k) v) := (t.1.set (k := 1 + k) (by omega) v).fr f10 (fun j => by omega)
        have R11 := R10.set (k := 1 + k) (by omega) (A (1 + k))
        rw [setA_back] at R11
        exact ⟨⟨R11, t.2.fr f1 (fun a j e => by unfold onMr; omega)⟩, mo_thr.trans (f1.mo (fun a j e => by omega)), by rw [f1.1 116 9 (by omega), sI_same]⟩
      have Rw : ∀ M2, MS M2 (A, sv, H, n, rp, r, tx, len) → RowAt (sI (sI M2 116 9 (nI 0)) 117 (1 + k) (nI v)) 117 (setA A (1 + k) v) := fun M2 hM2 => (hM2.thr (nI 0)).1.set (k := 1 + k) (by omega) v
      by_cases hst3 : aUnheld (setA A (1 + k) v) = none ∧ aUnbr (setA A (1 + k) v) = none ∧ aOver (setA A (1 + k) v) = none
      · obtain ⟨M1, e1, H1, d1, f1⟩ := k_keepChange (N := N) hN C I1.1 I1.2.2.2.1
        have R1 : RelP M1 9 A := I1.1.fr f1 (fun a j b1 b2 q => by unfold onK at q; omega)
        have s2 : Same (inP 9) M1 (sI M1 13 k (nI v)) := Same.put ⟨by omega, by omega⟩
        refine OpOK.of_yes (nI (A (1 + k))) (w.keep hc (wB0.mono (by omega) hc)) ⟨sI M1 13 k (nI v), head _ ?_, (cl1.trans (f1.cl (fun a j q => by unfold onK at q; omega))).trans (s2.cl (fun a e => by have := inP9 e; omega)), I1.kept H1 d1 f1 s2 (R1.rule hk3 v)⟩ (fun M2 hM2 => ?_)
        · rw [if_pos hst3, if_neg (by decide), k_at b5 (by omega) (by omega), bnd2_some, e1, bnd2_some, k_write b4 (by omega) (by omega), bnd2_some, I1.1.2.2.2.2.2.2.1 k hk3]; try rfl
        · have ew := m_wrong (N := N) hN hM (Rw M2 hM2) wB0
          rw [hst3.1, hst3.2.1, hst3.2.2] at ew
          obtain ⟨t1, t2, t3⟩ := mid M2 hM2 _ Fr.rfl
          obtain ⟨M3, e6, P3, f3⟩ := m_changes (N := N) hN hM hM.2.2.1.2.1 hM.2.2.1.2.2 (by omega) (by omega) t1.1 t1.2.2.1
          have R3 : RowAt M3 117 A := t1.1.fr f3 (fun j q => by unfold onP at q; omega)
          have f4 : Fr (fun a j => a = 117) M3 (sI M3 117 (1 + k) (nI v)) := Fr.put (P := fun a j => a = 117) rfl
          refine ⟨nI (A (1 + k)), sI M3 117 (1 + k) (nI v), hst M2 hM2 _ ?_, (t2.trans (f3.mo (fun a j q => by unfold onP at q; omega))).trans (f4.mo (fun a j e => by omega)), ?_, fun v' e => (by cases e; rfl), MI.kept (h := t1) P3 f3 f4 (fun a j e => by unfold onMr; omega) (R3.set (by omega) v)⟩
          · rw [ew]
            show bnd2 (some ((0 : Int32), _)) _ = _
            rw [bnd2_some, if_pos rfl, hback, if_neg (by decide), e6, bnd2_some]
          · rw [f4.1 116 9 (by omega), f3.1 116 9 (fun q => by unfold onP at q; omega)]; exact t3
      · refine OpOK.of_no (k := 2) ⟨by omega, by omega, by decide +kernel⟩ w1 (CK.bad' (show CS (sI (cpM M 15 9) 19 k (nI v)) (A, sv, H, n, rp, r, tx, len) from I1) cl1 (head _ (by rw [if_neg hst3, if_pos rfl]; try rfl))) (fun M2 hM2 => ?_)
        have ew := m_wrong (N := N) hN hM (Rw M2 hM2) wB0
        rcases wr_cases (a := aUnheld (setA A (1 + k) v)) (b := aUnbr (setA A (1 + k) v)) (d := aOver (setA A (1 + k) v)) (M := sI (sI M2 116 9 (nI 0)) 117 (1 + k) (nI v)) with ⟨z1, z2, z3, -⟩ | ⟨-, kk, p, z1, z2⟩
        · exact absurd ⟨z1, z2, z3⟩ hst3
        · rw [z2] at ew
          obtain ⟨t1, t2, t3⟩ := mid M2 hM2 (wrM (sI (sI M2 116 9 (nI 0)) 117 (1 + k) (nI v)) p) (Fr.put (P := fun a j => a = 116 ∧ j = 10) ⟨rfl, rfl⟩)
          refine ⟨0, sI (sI (wrM (sI (sI M2 116 9 (nI 0)) 117 (1 + k) (nI v)) p) 117 (1 + k) (nI (A (1 + k)))) 116 9 (nI 2), hst M2 hM2 _ ?_, t2.trans mo_thr, sI_same _ _ _ _, fun v' e => (by cases e), t1.thr _⟩
          rw [ew, bnd2_some, if_neg z1, hback, if_pos rfl, show fX9_fails N Z 116 (2 : Int32) _ = _ from m_fails hM (nI 2), bnd2_some]
    · refine OpOK.of_no (k := 1) ⟨by omega, by omega, by decide +kernel⟩ w1 (CK.bad hS ?_) (MK.bad (fun M1 hM1 => ?_))
      · unfold fX8_set
        rw [if_neg (nI_pos (by omega)), if_pos (by rw [i_3, i_lt (by omega) (by omega)]; exact hk3), e2, bnd2_some]
        rcases e5 with e5 | ⟨e5, e6⟩
        · rw [if_pos e5]; try rfl
        · rw [if_neg e5, e3, bnd2_some, if_neg e6]; try rfl
      · unfold fX9_set
        rw [isRule_k (N := N) (Z := Z) hk3 y M1 0 (e4 N Z M1) (Or.inl rfl), bnd2_some, if_pos rfl]; exact bad14 M1
  · refine OpOK.of_no (k := 1) ⟨by omega, by omega, by decide +kernel⟩ w1 (CK.bad hS ?_) (MK.bad (fun M1 hM1 => ?_))
    · unfold fX8_set; rw [if_neg (nI_pos (by omega)), if_neg (by rw [i_3, i_lt (by omega) (by omega)]; exact hk3)]; try rfl
    · have z : ∀ j, j < 3 → ¬ nI k = nI j := fun j hj e => by rw [i_eq (by omega) (by omega)] at e; omega
      unfold fX9_set fX9_isRule
      rw [if_neg (show ¬ nI k = (0 : Int32) from z 0 (by omega)), if_neg (show ¬ nI k = (1 : Int32) from z 1 (by omega)), if_neg (show ¬ nI k = (2 : Int32) from z 2 (by omega)), bnd2_some, if_pos rfl]; exact bad14 M1
end OS
