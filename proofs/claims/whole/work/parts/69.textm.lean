/-! ===== LAYER 3: texts, the reference's reading ===== -/
def TM (M : mM) (tx : Nat → Nat) (len q : Nat) : Prop := M.1 116 18 = nI len ∧ M.1 116 19 = nI q ∧ (∀ i, i < len → M.1 126 i = nI (tx i)) ∧ len ≤ 80 ∧ (∀ i, i < len → tx i < 65536)
def onY (a j : Nat) : Prop := a = 127 ∨ (a = 116 ∧ (j = 19 ∨ j = 21))
def Told (M : mM) (k : Nat) (cm : Cmd) : Prop := M.1 127 (5 * k) = nI cm.1 ∧ M.1 127 (5 * k + 1) = nI cm.2.1 ∧ M.1 127 (5 * k + 2) = nI cm.2.2.1 ∧ M.1 127 (5 * k + 3) = nI cm.2.2.2.1 ∧ M.1 127 (5 * k + 4) = if cm.2.2.2.2 then 1 else 0
section TY
variable {N : Nat} {Z : mZ} {tx : Nat → Nat} {len q : Nat}
theorem TM.fr {P : Nat → Nat → Prop} {M M' : mM} (h : TM M tx len q) (s : Fr P M M') (h0 : ¬ P 116 18) (h1 : ¬ P 116 19) (h2 : ∀ j, ¬ P 126 j) : TM M' tx len q :=
  ⟨by rw [s.1 _ _ h0]; exact h.1, by rw [s.1 _ _ h1]; exact h.2.1, fun i hi => by rw [s.1 _ _ (h2 i)]; exact h.2.2.1 i hi, h.2.2.2.1, h.2.2.2.2⟩
theorem TM.go {M : mM} (h : TM M tx len q) (r : Nat) : TM (sI M 116 19 (nI r)) tx len r :=
  ⟨by rw [sI_ne _ _ (by omega)]; exact h.1, sI_same _ _ _ _, fun i hi => by rw [sI_ne _ _ (by omega)]; exact h.2.2.1 i hi, h.2.2.2.1, h.2.2.2.2⟩
theorem TM.tl {M : mM} (h : TM M tx len q) (i : Nat) (v : Int32) : TM (sI M 127 i v) tx len q := h.fr (Fr.put (P := fun x j => x = 127) rfl) (by omega) (by omega) (fun j => by omega)
theorem TM.tn {M : mM} (h : TM M tx len q) (v : Int32) : TM (sI M 116 21 v) tx len q := h.fr (Fr.put (P := fun x j => x = 116 ∧ j = 21) ⟨rfl, rfl⟩) (by omega) (by omega) (fun j => by omega)
theorem y_here (hM : ModAt Z) {M : mM} (h : TM M tx len q) (hq : q < 100) : fX9_here N Z 116 M = some (ltI tx len q, M) := by
  obtain ⟨o1, ⟨-, -, -, -, -, -, -, -, -, r17, -⟩, -, -, -, -, -, -, -, -, -, ⟨a4, a5, a6⟩, -⟩ := hM
  obtain ⟨h0, h1, h2, h3, h4⟩ := h
  unfold fX9_here ltI
  rw [ck_t o1, h0, h1]
  by_cases c : q < len
  · rw [if_neg (by rw [i_le (by omega) (by omega)]; omega), r17, bnd1_some, ck_t a5, a6, ck_t (by rw [i_inB (by omega)]; exact decide_eq_true (by omega)), i_cl (by omega), h2 q c, if_pos c]
  · rw [if_pos (by rw [i_le (by omega) (by omega)]; omega), if_neg c]
theorem y_skips (hM : ModAt Z) {M : mM} (h : TM M tx len q) (hq : q < 100) {ch : Nat} (hch : ch < 65536) : fX9_skips N Z 116 (nI ch) M = some (if isC tx len q ch then 1 else 0, sI M 116 19 (nI (if isC tx len q ch then q + 1 else q))) := by
  have e := lt_eq (q := q) h.2.2.2.2 hch
  unfold fX9_skips
  rw [ck_t hM.1, y_here hM h hq, bnd2_some, h.2.1, nI_1]
  by_cases c : isC tx len q ch = true
  · rw [if_pos (e.2 c), if_pos c, if_pos c]
  · rw [if_neg (fun x => c (e.1 x)), if_neg c, if_neg c, show nI q + 0 = nI q from nI_add q 0]
theorem y_digit (hM : ModAt Z) {M : mM} (h : TM M tx len q) (hq : q < 100) {a : Nat} (ha : a < 200) : fX9_digit N Z 116 (nI a) M = match dgN tx len q with
    | none => some (0, M)
    | some d => some (1, sI (sI M 127 a (nI d)) 116 19 (nI (q + 1))) := by
  have gm := hM
  obtain ⟨o1, ⟨-, -, -, -, -, -, -, -, -, -, r20, -⟩, -, -, -, -, -, -, -, -, -, -, ⟨a4, a5, a6⟩, -⟩ := hM
  have ei : fX9_in N Z (ltI tx len q) (48 : Int32) (57 : Int32) M = some (if dgN tx len q = none then 0 else 1, M) := by
    unfold ltI dgN
    by_cases c : q < len
    · have hb := h.2.2.2.2 q c
      have e : fX9_in N Z (nI (tx q)) (48 : Int32) (57 : Int32) M = some (if 48 ≤ tx q ∧ tx q ≤ 57 then 1 else 0, M) := m_in (l := 48) (h := 57) (by omega) (by omega) (by omega)
      rw [if_pos c, e]
      by_cases c2 : 48 ≤ tx q ∧ tx q ≤ 57
      · have g : (if q < len ∧ 48 ≤ tx q ∧ tx q ≤ 57 then some (tx q - 48) else none) = some (tx q - 48) := if_pos ⟨c, c2⟩
        rw [if_pos c2, g, if_neg (by simp)]
      · have g : (if q < len ∧ 48 ≤ tx q ∧ tx q ≤ 57 then some (tx q - 48) else none) = none := if_neg (fun e => c2 e.2)
        rw [if_neg c2, g, if_pos rfl]
    · have g : (if q < len ∧ 48 ≤ tx q ∧ tx q ≤ 57 then some (tx q - 48) else none) = none := if_neg (fun e => c e.1)
      rw [if_neg c, g, if_pos rfl]
      unfold fX9_in; rw [if_pos (by decide)]
  unfold fX9_digit
  rw [ck_t o1, y_here gm h hq, bnd2_some, ei, bnd2_some]
  cases hd : dgN tx len q with
  | none => rw [if_pos rfl, if_pos rfl]
  | some d =>
    have hl := dgN_some hd
    have hv : ltI tx len q = nI (tx q) := by unfold ltI; rw [if_pos hl.1]
    have hb := h.2.2.2.2 q hl.1
    rw [if_neg (by simp), r20, bnd1_some, y_here gm h hq, bnd2_some, ck_t a4, a6, ck_t (by rw [i_inB (by omega)]; exact decide_eq_true ha), i_cl (by omega), hv, sI_ne _ _ (show ¬ ((116 : Nat) = 127 ∧ (19 : Nat) = a) by omega), h.2.1, nI_1, i_48, i_sub hl.2.2.1, ← hl.2.1]
def CmY (tx : Nat → Nat) (len : Nat) (M : mM) (k : Nat) (r : Nat × Option Cmd) (R : Option (Int32 × mM)) : Prop :=
  ∃ M', R = some (if r.2 = none then 0 else 1, M') ∧ TM M' tx len r.1 ∧ Fr onY M M' ∧ (∀ i, i < 5 * k → M'.1 127 i = M.1 127 i) ∧ ∀ cm, r.2 = some cm → M'.1 116 21 = nI (k + 1) ∧ Told M' k cm
theorem CmY.pre {M M1 : mM} {k : Nat} {r : Nat × Option Cmd} {R : Option (Int32 × mM)} (h : CmY tx len M1 k r R) (f : Fr onY M M1) (ht : ∀ i, i < 5 * k → M1.1 127 i = M.1 127 i) : CmY tx len M k r R := by
  obtain ⟨M', x1, x2, x3, x4, x5⟩ := h
  exact ⟨M', x1, x2, f.trans x3, fun i hi => by rw [x4 i hi]; exact ht i hi, x5⟩
/-- told so far, but the place -/
def Tp (M : mM) (k w l cl : Nat) (tk : Bool) : Prop := M.1 127 (5 * k) = nI w ∧ M.1 127 (5 * k + 2) = nI l ∧ M.1 127 (5 * k + 3) = nI cl ∧ M.1 127 (5 * k + 4) = if tk then 1 else 0
theorem y_108 (hM : ModAt Z) {M : mM} {k : Nat} {tk : Bool} (hk : k ≤ 27) (h : TM M tx len q) (hq : q ≤ 81) (hn : M.1 116 21 = nI k) (h2 : M.1 127 (5 * k + 2) = nI 0) (h3 : M.1 127 (5 * k + 3) = nI 1) (h4 : M.1 127 (5 * k + 4) = if tk then 1 else 0) :
    CmY tx len M k (cmdW tx len q tk) (fX9_command_108 N Z 116 (nI (5 * k)) (optI (whN tx len q)) (nI (5 * k)) 127 M) := by
  have gm := hM
  have h80 := h.2.2.2.1
  obtain ⟨o1, ⟨-, -, -, -, -, -, -, -, -, -, r20, -⟩, -, -, -, -, -, -, -, -, -, -, ⟨a4, a5, a6⟩, -⟩ := hM
  have ib : inB (nI (5 * k)) (Z.2.2.1 127) = true := by rw [a6, i_inB (by omega)]; exact decide_eq_true (by omega)
  have F0 : Fr onY M (sI M 127 (5 * k) (optI (whN tx len q))) := Fr.put (Or.inl rfl)
  have T0 := h.tl (5 * k) (optI (whN tx len q))
  unfold fX9_command_108
  rw [ck_t a4, ck_t ib, ck_t o1, r20, bnd1_some, ck_t a5, ck_t ib, i_cl (by omega), sI_same]
  unfold cmdW
  cases hw : whN tx len q with
  | none =>
    rw [hw] at F0 T0
    refine ⟨_, by rw [if_neg (by decide), if_pos rfl], T0, F0, fun i hi => by rw [sI_ne _ _ (by omega)], fun cm e => by cases e⟩
  | some w =>
    rw [hw] at F0 T0
    have hw5 := whN_some hw
    have ow : optI (some w) = nI w := rfl
    rw [ow] at F0 T0 ⊢
    rw [if_pos (nI_pos' (by omega)), T0.2.1, sI_ne _ _ (show ¬ ((116 : Nat) = 116 ∧ (21 : Nat) = 19) by omega), sI_ne _ _ (show ¬ ((116 : Nat) = 127 ∧ (21 : Nat) = 5 * k) by omega), hn, nI_1, nI_1, nI_1]
    obtain ⟨M1, hM1⟩ : ∃ M1, M1 = sI (sI (sI M 127 (5 * k) (nI w)) 116 19 (nI (q + 1))) 116 21 (nI (k + 1)) := ⟨_, rfl⟩
    have T1 : TM M1 tx len (q + 1) := by rw [hM1]; exact (T0.go (q + 1)).tn _
    have F1 : Fr onY M M1 := by rw [hM1]; exact (F0.trans (Fr.put (Or.inr ⟨rfl, Or.inl rfl⟩))).trans (Fr.put (Or.inr ⟨rfl, Or.inr rfl⟩))
    have K1 : ∀ i, i < 5 * k → M1.1 127 i = M.1 127 i := fun i hi => by rw [hM1, sI_ne _ _ (by omega), sI_ne _ _ (by omega), sI_ne _ _ (by omega)]
    have P1 : Tp M1 k w 0 1 tk := by
      rw [hM1]
      refine ⟨by rw [sI_ne _ _ (by omega), sI_ne _ _ (by omega), sI_same], ?_, ?_, ?_⟩
      · rw [sI_ne _ _ (by omega), sI_ne _ _ (by omega), sI_ne _ _ (by omega)]; exact h2
      · rw [sI_ne _ _ (by omega), sI_ne _ _ (by omega), sI_ne _ _ (by omega)]; exact h3
      · rw [sI_ne _ _ (by omega), sI_ne _ _ (by omega), sI_ne _ _ (by omega)]; exact h4
    have N1 : M1.1 116 21 = nI (k + 1) := by rw [hM1, sI_same]
    rw [← hM1]
    refine CmY.pre ?_ F1 K1
    rw [y_digit gm T1 (by omega) (show 5 * k + 1 < 200 by omega)]
    cases hd : dgN tx len (q + 1) with
    | none => exact ⟨M1, by rw [bnd2_some, if_pos rfl, if_pos rfl], T1, Fr.rfl, fun i _ => rfl, fun cm e => by cases e⟩
    | some p =>
      have hp := dgN_some hd
      show CmY tx len M1 k (cmdL tx len w p (q + 2) tk) (bnd2 (some (1, sI (sI M1 127 (5 * k + 1) (nI p)) 116 19 (nI (q + 1 + 1)))) _)
      rw [bnd2_some, if_neg (by decide)]
      obtain ⟨M2, hM2⟩ : ∃ M2, M2 = sI (sI M1 127 (5 * k + 1) (nI p)) 116 19 (nI (q + 1 + 1)) := ⟨_, rfl⟩
      have T2 : TM M2 tx len (q + 2) := by rw [hM2]; exact (T1.tl _ _).go _
      have F2 : Fr onY M1 M2 := by rw [hM2]; exact (Fr.put (P := onY) (Or.inl rfl)).trans (Fr.put (Or.inr ⟨rfl, Or.inl rfl⟩))
      have K2 : ∀ i, i < 5 * k → M2.1 127 i = M1.1 127 i := fun i hi => by rw [hM2, sI_ne _ _ (by omega), sI_ne _ _ (by omega)]
      have N2 : M2.1 116 21 = nI (k + 1) := by rw [hM2, sI_ne _ _ (by omega), sI_ne _ _ (by omega)]; exact N1
      have D2 : Told M2 k (w, p, 0, 1, tk) := by
        rw [hM2]
        refine ⟨?_, ?_, ?_, ?_, ?_⟩
        · rw [sI_ne _ _ (by omega), sI_ne _ _ (by omega)]; exact P1.1
        · rw [sI_ne _ _ (by omega), sI_same]
        · rw [sI_ne _ _ (by omega), sI_ne _ _ (by omega)]; exact P1.2.1
        · rw [sI_ne _ _ (by omega), sI_ne _ _ (by omega)]; exact P1.2.2.1
        · rw [sI_ne _ _ (by omega), sI_ne _ _ (by omega)]; exact P1.2.2.2
      rw [← hM2]
      refine CmY.pre ?_ F2 K2
      have dw2 : M2.1 127 (5 * k) = nI w := D2.1
      rw [dw2]
      have iw : ∀ n, n < 100 → ((nI w = nI n) ↔ w = n) := fun n hn => by rw [i_eq (by omega) (by omega)]
      have iw0 : (nI w = 0) ↔ w = 0 := iw 0 (by omega)
      have iw2 : (nI w = (2 : Int32)) ↔ w = 2 := iw 2 (by omega)
      have fin : ∀ (M' : mM) (l : Nat), Told M' k (w, p, l, 1, tk) → M'.1 116 21 = nI (k + 1) → TM M' tx len (q + 2) → CmY tx len M' k (q + 2, some (w, p, l, 1, tk)) (some ((1 : Int32), M')) := fun M' l d n t => ⟨M', by rw [if_neg (by simp)], t, Fr.rfl, fun i _ => rfl, fun cm e => by cases e; exact ⟨n, d⟩⟩
      unfold cmdL
      by_cases w0 : w = 0
      · rw [if_pos (iw0.2 w0), if_pos w0]
        exact ⟨M2, by rw [if_neg (by simp)], T2, Fr.rfl, fun i _ => rfl, fun cm e => by cases e; exact ⟨N2, D2⟩⟩
      · have e46 : fX9_skips N Z 116 (46 : Int32) M2 = some (if isC tx len (q + 2) 46 then 1 else 0, sI M2 116 19 (nI (if isC tx len (q + 2) 46 then q + 2 + 1 else q + 2))) := y_skips (ch := 46) gm T2 (by omega) (by omega)
        rw [if_neg (fun e => w0 (iw0.1 e)), if_neg w0, e46, bnd2_some]
        by_cases c46 : isC tx len (q + 2) 46 = true
        · rw [if_pos c46, if_pos c46, if_pos c46, if_neg (by decide)]
          have hq2 : q + 2 < len := (of_decide_eq_true c46).1
          obtain ⟨M3, hM3⟩ : ∃ M3, M3 = sI M2 116 19 (nI (q + 2 + 1)) := ⟨_, rfl⟩
          have T3 : TM M3 tx len (q + 2 + 1) := by rw [hM3]; exact T2.go _
          have F3 : Fr onY M2 M3 := by rw [hM3]; exact Fr.put (Or.inr ⟨rfl, Or.inl rfl⟩)
          have E3 : ∀ i, M3.1 127 i = M2.1 127 i := fun i => by rw [hM3, sI_ne _ _ (by omega)]
          have N3 : M3.1 116 21 = nI (k + 1) := by rw [hM3, sI_ne _ _ (by omega)]; exact N2
          rw [← hM3]
          refine CmY.pre ?_ F3 (fun i _ => E3 i)
          have e2 : nI (5 * k) + 2 = nI (5 * k + 2) := nI_add _ 2
          rw [e2, y_digit gm T3 (by omega) (show 5 * k + 2 < 200 by omega)]
          cases hd2 : dgN tx len (q + 2 + 1) with
          | none => exact ⟨M3, by rw [bnd2_some, if_pos rfl, if_pos rfl], T3, Fr.rfl, fun i _ => rfl, fun cm e => by cases e⟩
          | some l =>
            have hl := dgN_some hd2
            show CmY tx len M3 k (cmdT tx len w p l (q + 2 + 2) tk) (bnd2 (some (1, sI (sI M3 127 (5 * k + 2) (nI l)) 116 19 (nI (q + 2 + 1 + 1)))) _)
            rw [bnd2_some, if_neg (by decide)]
            obtain ⟨M4, hM4⟩ : ∃ M4, M4 = sI (sI M3 127 (5 * k + 2) (nI l)) 116 19 (nI (q + 2 + 1 + 1)) := ⟨_, rfl⟩
            have T4 : TM M4 tx len (q + 2 + 2) := by rw [hM4]; exact (T3.tl _ _).go _
            have F4 : Fr onY M3 M4 := by rw [hM4]; exact (Fr.put (P := onY) (Or.inl rfl)).trans (Fr.put (Or.inr ⟨rfl, Or.inl rfl⟩))
            have K4 : ∀ i, i < 5 * k → M4.1 127 i = M3.1 127 i := fun i hi => by rw [hM4, sI_ne _ _ (by omega), sI_ne _ _ (by omega)]
            have N4 : M4.1 116 21 = nI (k + 1) := by rw [hM4, sI_ne _ _ (by omega), sI_ne _ _ (by omega)]; exact N3
            have D4 : Told M4 k (w, p, l, 1, tk) := by
              rw [hM4]
              refine ⟨?_, ?_, ?_, ?_, ?_⟩
              · rw [sI_ne _ _ (by omega), sI_ne _ _ (by omega), E3]; exact D2.1
              · rw [sI_ne _ _ (by omega), sI_ne _ _ (by omega), E3]; exact D2.2.1
              · rw [sI_ne _ _ (by omega), sI_same]
              · rw [sI_ne _ _ (by omega), sI_ne _ _ (by omega), E3]; exact D2.2.2.2.1
              · rw [sI_ne _ _ (by omega), sI_ne _ _ (by omega), E3]; exact D2.2.2.2.2
            rw [← hM4]
            refine CmY.pre ?_ F4 K4
            have dw4 : M4.1 127 (5 * k) = nI w := D4.1
            rw [dw4]
            unfold cmdT
            by_cases w2 : w = 2
            · have e42 : fX9_skips N Z 116 (42 : Int32) M4 = some (if isC tx len (q + 2 + 2) 42 then 1 else 0, sI M4 116 19 (nI (if isC tx len (q + 2 + 2) 42 then q + 2 + 2 + 1 else q + 2 + 2))) := y_skips (ch := 42) gm T4 (by omega) (by omega)
              rw [if_pos (iw2.2 w2), e42, bnd2_some]
              by_cases c42 : isC tx len (q + 2 + 2) 42 = true
              · have hq4 : q + 2 + 2 < len := (of_decide_eq_true c42).1
                rw [if_pos c42, if_pos c42, if_neg (show ¬ ((1 : Int32) = 0) by decide), if_pos (show w = 2 ∧ isC tx len (q + 2 + 2) 42 = true from ⟨w2, c42⟩)]
                obtain ⟨M5, hM5⟩ : ∃ M5, M5 = sI M4 116 19 (nI (q + 2 + 2 + 1)) := ⟨_, rfl⟩
                have T5 : TM M5 tx len (q + 2 + 2 + 1) := by rw [hM5]; exact T4.go _
                have F5 : Fr onY M4 M5 := by rw [hM5]; exact Fr.put (Or.inr ⟨rfl, Or.inl rfl⟩)
                have E5 : ∀ i, M5.1 127 i = M4.1 127 i := fun i => by rw [hM5, sI_ne _ _ (by omega)]
                have N5 : M5.1 116 21 = nI (k + 1) := by rw [hM5, sI_ne _ _ (by omega)]; exact N4
                rw [← hM5]
                refine CmY.pre ?_ F5 (fun i _ => E5 i)
                have e3 : nI (5 * k) + 3 = nI (5 * k + 3) := nI_add _ 3
                rw [e3, y_digit gm T5 (by omega) (show 5 * k + 3 < 200 by omega)]
                cases hd3 : dgN tx len (q + 2 + 2 + 1) with
                | none => exact ⟨M5, by rw [bnd2_some, if_pos rfl, if_pos rfl], T5, Fr.rfl, fun i _ => rfl, fun cm e => by cases e⟩
                | some cl =>
                  show CmY tx len M5 k (q + 2 + 2 + 2, some (w, p, l, cl, tk)) (bnd2 (some (1, sI (sI M5 127 (5 * k + 3) (nI cl)) 116 19 (nI (q + 2 + 2 + 1 + 1)))) _)
                  rw [bnd2_some, if_neg (by decide)]
                  refine ⟨_, by rw [if_neg (by simp)], (T5.tl _ _).go _, (Fr.put (P := onY) (Or.inl rfl)).trans (Fr.put (Or.inr ⟨rfl, Or.inl rfl⟩)), fun i hi => by rw [sI_ne _ _ (by omega), sI_ne _ _ (by omega)], fun cm e => ?_⟩
                  cases e
                  refine ⟨by rw [sI_ne _ _ (by omega), sI_ne _ _ (by omega)]; exact N5, ?_, ?_, ?_, ?_, ?_⟩
                  · rw [sI_ne _ _ (by omega), sI_ne _ _ (by omega), E5]; exact D4.1
                  · rw [sI_ne _ _ (by omega), sI_ne _ _ (by omega), E5]; exact D4.2.1
                  · rw [sI_ne _ _ (by omega), sI_ne _ _ (by omega), E5]; exact D4.2.2.1
                  · rw [sI_ne _ _ (by omega), sI_same]
                  · rw [sI_ne _ _ (by omega), sI_ne _ _ (by omega), E5]; exact D4.2.2.2.2
              · rw [if_neg c42, if_neg c42, if_pos rfl, if_neg (show ¬ (w = 2 ∧ isC tx len (q + 2 + 2) 42 = true) from fun e => c42 e.2)]
                refine ⟨_, by rw [if_neg (by simp)], T4.go _, Fr.put (Or.inr ⟨rfl, Or.inl rfl⟩), fun i hi => by rw [sI_ne _ _ (by omega)], fun cm e => ?_⟩
                cases e
                refine ⟨by rw [sI_ne _ _ (by omega)]; exact N4, ?_, ?_, ?_, ?_, ?_⟩
                · rw [sI_ne _ _ (by omega)]; exact D4.1
                · rw [sI_ne _ _ (by omega)]; exact D4.2.1
                · rw [sI_ne _ _ (by omega)]; exact D4.2.2.1
                · rw [sI_ne _ _ (by omega)]; exact D4.2.2.2.1
                · rw [sI_ne _ _ (by omega)]; exact D4.2.2.2.2
            · rw [if_neg (fun e => w2 (iw2.1 e)), if_neg (show ¬ (w = 2 ∧ isC tx len (q + 2 + 2) 42 = true) from fun e => w2 e.1)]
              exact ⟨M4, by rw [if_neg (by simp)], T4, Fr.rfl, fun i _ => rfl, fun cm e => by cases e; exact ⟨N4, D4⟩⟩
        · rw [if_neg c46, if_neg c46, if_neg c46, if_pos rfl]
          exact ⟨_, by rw [if_pos rfl], T2.go _, Fr.put (Or.inr ⟨rfl, Or.inl rfl⟩), fun i hi => by rw [sI_ne _ _ (by omega)], fun cm e => by cases e⟩
theorem y_46 (hM : ModAt Z) {M : mM} {k : Nat} {tk : Bool} (hk : k ≤ 27) (h : TM M tx len q) (hq : q ≤ 81) (hn : M.1 116 21 = nI k) (h2 : M.1 127 (5 * k + 2) = nI 0) (h3 : M.1 127 (5 * k + 3) = nI 1) :
    CmY tx len M k (cmdW tx len q tk) (fX9_command_46 N Z 116 (nI (5 * k)) (if tk then 1 else 0) (nI (5 * k + 4)) 127 M) := by
  have gm := hM
  have hb := h.2.2.2.2
  obtain ⟨o1, ⟨-, -, -, -, -, -, -, -, -, -, r20, -⟩, -, -, -, -, -, -, -, -, -, -, ⟨a4, a5, a6⟩, -⟩ := hM
  have T1 := h.tl (5 * k + 4) (if tk then 1 else 0)
  have h108 := y_108 (N := N) (tk := tk) gm hk T1 hq (by rw [sI_ne _ _ (by omega)]; exact hn) (by rw [sI_ne _ _ (by omega)]; exact h2) (by rw [sI_ne _ _ (by omega)]; exact h3) (sI_same _ _ _ _)
  unfold fX9_command_46
  rw [ck_t a4, a6, ck_t (by rw [i_inB (by omega)]; exact decide_eq_true (by omega)), ck_t o1, i_cl (by omega), y_here gm T1 (by omega), bnd2_some, r20, bnd1_some]
  refine CmY.pre (M1 := sI M 127 (5 * k + 4) (if tk then 1 else 0)) ?_ (Fr.put (Or.inl rfl)) (fun i hi => by rw [sI_ne _ _ (by omega)])
  revert h108
  generalize sI M 127 (5 * k + 4) (if tk then 1 else 0) = M1
  intro h108
  unfold ltI
  unfold whN at h108
  by_cases c : q < len
  · have hx := hb q c
    rw [if_pos c] at h108 ⊢
    have ie : ∀ n, n < 65536 → ((nI (tx q) = nI n) ↔ tx q = n) := fun n hn => by rw [i_eq (by omega) (by omega)]
    have ie101 : (nI (tx q) = (101 : Int32)) ↔ tx q = 101 := ie 101 (by omega)
    have ie100 : (nI (tx q) = (100 : Int32)) ↔ tx q = 100 := ie 100 (by omega)
    have ie98 : (nI (tx q) = (98 : Int32)) ↔ tx q = 98 := ie 98 (by omega)
    have ie116 : (nI (tx q) = (116 : Int32)) ↔ tx q = 116 := ie 116 (by omega)
    have ie108 : (nI (tx q) = (108 : Int32)) ↔ tx q = 108 := ie 108 (by omega)
    unfold whC at h108
    by_cases c1 : tx q = 101
    · rw [if_pos (ie101.2 c1)]
      rw [if_neg (by omega), if_neg (by omega), if_pos c1] at h108; exact h108
    rw [if_neg (fun e => c1 (ie101.1 e))]
    by_cases c2 : tx q = 100
    · rw [if_pos (ie100.2 c2)]
      rw [if_neg (by omega), if_pos c2] at h108; exact h108
    rw [if_neg (fun e => c2 (ie100.1 e))]
    by_cases c3 : tx q = 98
    · rw [if_pos (ie98.2 c3)]
      rw [if_pos c3] at h108; exact h108
    rw [if_neg (fun e => c3 (ie98.1 e))]
    by_cases c4 : tx q = 116
    · rw [if_pos (ie116.2 c4)]
      rw [if_neg (by omega), if_neg (by omega), if_neg (by omega), if_neg (by omega), if_pos c4] at h108; exact h108
    rw [if_neg (fun e => c4 (ie116.1 e))]
    by_cases c5 : tx q = 108
    · rw [if_pos (ie108.2 c5)]
      rw [if_neg (by omega), if_neg (by omega), if_neg (by omega), if_pos c5] at h108; exact h108
    rw [if_neg (fun e => c5 (ie108.1 e))]
    rw [if_neg c3, if_neg c2, if_neg c1, if_neg c5, if_neg c4] at h108; exact h108
  · rw [if_neg c] at h108 ⊢
    rw [if_neg (by decide), if_neg (by decide), if_neg (by decide), if_neg (by decide), if_neg (by decide)]
    exact h108
theorem y_command (hM : ModAt Z) {M : mM} {k : Nat} (hk : k ≤ 27) (h : TM M tx len q) (hq : q ≤ 80) (hn : M.1 116 21 = nI k) : CmY tx len M k (cmdN tx len q) (fX9_command N Z 116 M) := by
  have gm := hM
  obtain ⟨o1, ⟨-, -, -, -, -, -, -, -, -, -, r20, -⟩, -, -, -, -, -, -, -, -, -, -, ⟨a4, a5, a6⟩, -⟩ := hM
  have q0 : (5 : Int32) * nI k = nI (5 * k) := by rw [i_5, pk_mul]
  have q2 : nI (5 * k) + 2 = nI (5 * k + 2) := nI_add _ 2
  have q3 : nI (5 * k) + 3 = nI (5 * k + 3) := nI_add _ 3
  have q4 : nI (5 * k) + 4 = nI (5 * k + 4) := nI_add _ 4
  have ib : ∀ i, i < 200 → inB (nI i) (Z.2.2.1 127) = true := fun i hi => by rw [a6, i_inB (by omega)]; exact decide_eq_true hi
  have T1 := (h.tl (5 * k + 2) (0 : Int32)).tl (5 * k + 3) (1 : Int32)
  obtain ⟨M1, hM1⟩ : ∃ M1, M1 = sI (sI M 127 (5 * k + 2) (0 : Int32)) 127 (5 * k + 3) (1 : Int32) := ⟨_, rfl⟩
  have F1 : Fr onY M M1 := by rw [hM1]; exact (Fr.put (P := onY) (Or.inl rfl)).trans (Fr.put (Or.inl rfl))
  have K1 : ∀ i, i < 5 * k → M1.1 127 i = M.1 127 i := fun i hi => by rw [hM1, sI_ne _ _ (by omega), sI_ne _ _ (by omega)]
  have N1 : M1.1 116 21 = nI k := by rw [hM1, sI_ne _ _ (by omega), sI_ne _ _ (by omega)]; exact hn
  have A2 : M1.1 127 (5 * k + 2) = nI 0 := by rw [hM1, sI_ne _ _ (by omega), sI_same]; rfl
  have A3 : M1.1 127 (5 * k + 3) = nI 1 := by rw [hM1, sI_same]; rfl
  rw [← hM1] at T1
  have e45 : fX9_skips N Z 116 (45 : Int32) M1 = some (if isC tx len q 45 then 1 else 0, sI M1 116 19 (nI (if isC tx len q 45 then q + 1 else q))) := y_skips (ch := 45) gm T1 (by omega) (by omega)
  unfold fX9_command cmdN
  rw [ck_t o1, r20, bnd1_some, ck_t a4, hn, q0, q2, q3, ck_t (ib _ (by omega)), ck_t (ib _ (by omega)), i_cl (by omega), i_cl (by omega), ← hM1, e45, bnd2_some, q4]
  refine CmY.pre ?_ (F1.trans (Fr.put (v := nI (if isC tx len q 45 then q + 1 else q)) (Or.inr ⟨rfl, Or.inl rfl⟩))) (fun i hi => by rw [sI_ne _ _ (by omega)]; exact K1 i hi)
  have T2 := T1.go (if isC tx len q 45 then q + 1 else q)
  have e := fun tk => y_46 (N := N) (tk := tk) gm hk T2 (by split <;> omega) (by rw [sI_ne _ _ (by omega)]; exact N1) (by rw [sI_ne _ _ (by omega)]; exact A2) (by rw [sI_ne _ _ (by omega)]; exact A3)
  by_cases c : isC tx len q 45 = true
  · have := e true
    rw [if_pos c] at this ⊢
    rw [if_pos c, if_neg (by decide), c]
    exact this
  · have := e false
    have c' : isC tx len q 45 = false := by cases h : isC tx len q 45 with
      | false => rfl
      | true => exact absurd h c
    rw [if_neg c] at this ⊢
    rw [if_neg c, if_pos rfl, c']
    exact this
def ToldL (M : mM) (k : Nat) (L : List Cmd) : Prop := ∀ i cm, L[i]? = some cm → Told M (k + i) cm
theorem y_text10 (hM : ModAt Z) : ∀ (j k q fu : Nat) (M : mM), k + j = 27 → 3 * k ≤ q → q ≤ len → j < fu → TM M tx len q → M.1 116 21 = nI k →
    ∃ M', fX9_isText_10 N Z fu 116 M = some ((match txtN tx len j q with
      | .inl _ => (0 : Int32)
      | .inr _ => (1 : Int32)), M') ∧ Fr onY M M' ∧ (∀ i, i < 5 * k → M'.1 127 i = M.1 127 i) ∧ (∀ e, txtN tx len j q = .inl e → TM M' tx len e) ∧ (∀ L, txtN tx len j q = .inr L → (∃ q', TM M' tx len q') ∧ M'.1 116 21 = nI (k + L.length) ∧ ToldL M' k L ∧ ∀ cm ∈ L, CmOk cm) := by
  intro j
  induction j with
  | zero =>
    intro k q fu M h1 h2 h3 h4 h hn
    have := h.2.2.2.1
    omega
  | succ j ih =>
    intro k q fu M h1 h2 h3 h4 h hn
    obtain ⟨fu, rfl⟩ : ∃ q, fu = q + 1 := ⟨fu - 1, by omega⟩
    have h80 := h.2.2.2.1
    obtain ⟨M1, e1, T1, F1, K1, D1⟩ := y_command (N := N) hM (k := k) (by omega) h (by omega) hn
    have hpos := cmdN_pos (tx := tx) (len := len) (q := q)
    rw [fX9_isText_10, ck_t hM.1, e1, bnd2_some]
    unfold txtN
    obtain ⟨r, hr⟩ : ∃ r, r = cmdN tx len q := ⟨_, rfl⟩
    rw [← hr] at e1 T1 hpos D1 ⊢
    obtain ⟨q', o⟩ := r
    cases o with
    | none =>
      rw [if_pos rfl, if_pos rfl]
      exact ⟨M1, rfl, F1, K1, fun e he => by cases he; exact T1, fun L he => by cases he⟩
    | some cm =>
      have hp3 : q + 2 ≤ q' ∧ q' ≤ len := hpos.2.1 (by simp)
      have hok : CmOk cm := hpos.2.2 cm rfl
      obtain ⟨N1, D1⟩ := D1 cm rfl
      have e59 : fX9_skips N Z 116 (59 : Int32) M1 = some (if isC tx len q' 59 then 1 else 0, sI M1 116 19 (nI (if isC tx len q' 59 then q' + 1 else q'))) := y_skips (ch := 59) hM T1 (by show q' < 100; omega) (by omega)
      rw [if_neg (show ¬ (some cm = none) by simp), if_neg (by decide), e59, bnd2_some]
      have T2 := T1.go (if isC tx len q' 59 then q' + 1 else q')
      obtain ⟨M2, hM2⟩ : ∃ M2, M2 = sI M1 116 19 (nI (if isC tx len q' 59 then q' + 1 else q')) := ⟨_, rfl⟩
      have F2 : Fr onY M1 M2 := by rw [hM2]; exact Fr.put (Or.inr ⟨rfl, Or.inl rfl⟩)
      have E2 : ∀ i, M2.1 127 i = M1.1 127 i := fun i => by rw [hM2, sI_ne _ _ (by omega)]
      have N2 : M2.1 116 21 = nI (k + 1) := by rw [hM2, sI_ne _ _ (by omega)]; exact N1
      rw [← hM2] at T2 ⊢
      have D2 : Told M2 k cm := ⟨by rw [E2]; exact D1.1, by rw [E2]; exact D1.2.1, by rw [E2]; exact D1.2.2.1, by rw [E2]; exact D1.2.2.2.1, by rw [E2]; exact D1.2.2.2.2⟩
      have K2 : ∀ i, i < 5 * k → M2.1 127 i = M.1 127 i := fun i hi => by rw [E2]; exact K1 i hi
      by_cases c59 : isC tx len q' 59 = true
      · rw [if_pos c59] at T2
        have hlt := (of_decide_eq_true c59).1
        have c : ¬ q' = len := by omega
        rw [if_pos c59, if_neg (by decide)]
        obtain ⟨M', x1, x2, x3, x4, x5⟩ := ih (k + 1) (q' + 1) fu M2 (by omega) (by omega) (by omega) (by omega) T2 N2
        refine ⟨M', ?_, (F1.trans F2).trans x2, fun i hi => by rw [x3 i (by omega)]; exact K2 i hi, fun e he => ?_, fun L he => ?_⟩
        · rw [x1]
          show _ = some ((match (if q' = len then (.inr [cm] : Nat ⊕ List Cmd) else if isC tx len q' 59 = true then (match txtN tx len j (q' + 1) with
            | .inl e => .inl e
            | .inr L => .inr (cm :: L)) else .inl q') with
            | .inl _ => (0 : Int32)
            | .inr _ => (1 : Int32)), M')
          rw [if_neg c, if_pos c59]
          cases txtN tx len j (q' + 1) <;> rfl
        · have he' : (if q' = len then (.inr [cm] : Nat ⊕ List Cmd) else if isC tx len q' 59 = true then (match txtN tx len j (q' + 1) with
            | .inl e => .inl e
            | .inr L => .inr (cm :: L)) else .inl q') = .inl e := he
          rw [if_neg c, if_pos c59] at he'
          cases ht : txtN tx len j (q' + 1) with
          | inl e2 => rw [ht] at he'; cases he'; exact x4 _ ht
          | inr L => rw [ht] at he'; cases he'
        · have he' : (if q' = len then (.inr [cm] : Nat ⊕ List Cmd) else if isC tx len q' 59 = true then (match txtN tx len j (q' + 1) with
            | .inl e => .inl e
            | .inr L => .inr (cm :: L)) else .inl q') = .inr L := he
          rw [if_neg c, if_pos c59] at he'
          cases ht : txtN tx len j (q' + 1) with
          | inl e2 => rw [ht] at he'; cases he'
          | inr L2 =>
            rw [ht] at he'
            cases he'
            obtain ⟨y1, y2, y3, y4⟩ := x5 L2 ht
            refine ⟨y1, by rw [y2, List.length_cons]; congr 1; omega, fun i cm2 hi => ?_, fun cm2 hi => ?_⟩
            · cases i with
              | zero =>
                rw [List.getElem?_cons_zero] at hi
                cases hi
                rw [Nat.add_zero]
                exact ⟨by rw [x3 _ (by omega)]; exact D2.1, by rw [x3 _ (by omega)]; exact D2.2.1, by rw [x3 _ (by omega)]; exact D2.2.2.1, by rw [x3 _ (by omega)]; exact D2.2.2.2.1, by rw [x3 _ (by omega)]; exact D2.2.2.2.2⟩
              | succ i =>
                rw [List.getElem?_cons_succ] at hi
                have := y3 i cm2 hi
                rw [show k + (i + 1) = k + 1 + i by omega]; exact this
            · rcases List.mem_cons.mp hi with rfl | hi
              · exact hok
              · exact y4 cm2 hi
      · rw [if_neg c59] at T2
        rw [if_neg c59, if_pos rfl, T2.2.1, T2.1]
        by_cases c : q' = len
        · rw [if_pos (by rw [c])]
          refine ⟨M2, ?_, F1.trans F2, K2, fun e he => ?_, fun L he => ?_⟩
          · show _ = some ((match (if q' = len then (.inr [cm] : Nat ⊕ List Cmd) else _) with
              | .inl _ => (0 : Int32)
              | .inr _ => (1 : Int32)), M2)
            rw [if_pos c]
          · have he' : (if q' = len then (.inr [cm] : Nat ⊕ List Cmd) else if isC tx len q' 59 = true then (match txtN tx len j (q' + 1) with
              | .inl e => .inl e
              | .inr L => .inr (cm :: L)) else .inl q') = .inl e := he
            rw [if_pos c] at he'; cases he'
          · have he' : (if q' = len then (.inr [cm] : Nat ⊕ List Cmd) else if isC tx len q' 59 = true then (match txtN tx len j (q' + 1) with
              | .inl e => .inl e
              | .inr L => .inr (cm :: L)) else .inl q') = .inr L := he
            rw [if_pos c] at he'
            cases he'
            refine ⟨⟨q', T2⟩, N2, fun i cm2 hi => ?_, fun cm2 hi => ?_⟩
            · cases i with
              | zero =>
                rw [List.getElem?_cons_zero] at hi
                cases hi
                rw [Nat.add_zero]; exact D2
              | succ i => rw [List.getElem?_cons_succ, List.getElem?_nil] at hi; cases hi
            · rw [List.mem_singleton.mp hi]; exact hok
        · rw [if_neg (by rw [i_eq (by omega) (by omega)]; exact c)]
          refine ⟨M2, ?_, F1.trans F2, K2, fun e he => ?_, fun L he => ?_⟩
          · show _ = some ((match (if q' = len then (.inr [cm] : Nat ⊕ List Cmd) else if isC tx len q' 59 = true then (match txtN tx len j (q' + 1) with
              | .inl e => .inl e
              | .inr L => .inr (cm :: L)) else .inl q') with
              | .inl _ => (0 : Int32)
              | .inr _ => (1 : Int32)), M2)
            rw [if_neg c, if_neg c59]
          · have he' : (if q' = len then (.inr [cm] : Nat ⊕ List Cmd) else if isC tx len q' 59 = true then (match txtN tx len j (q' + 1) with
              | .inl e => .inl e
              | .inr L => .inr (cm :: L)) else .inl q') = .inl e := he
            rw [if_neg c, if_neg c59] at he'; cases he'; exact T2
          · have he' : (if q' = len then (.inr [cm] : Nat ⊕ List Cmd) else if isC tx len q' 59 = true then (match txtN tx len j (q' + 1) with
              | .inl e => .inl e
              | .inr L => .inr (cm :: L)) else .inl q') = .inr L := he
            rw [if_neg c, if_neg c59] at he'; cases he'
theorem y_text (hM : ModAt Z) (hN : 5000 ≤ N) {M : mM} (h : TM M tx len q) :
    ∃ M', fX9_isText N Z 116 M = some ((match txtN tx len 27 0 with
      | .inl _ => (0 : Int32)
      | .inr _ => (1 : Int32)), M') ∧ Fr onY M M' ∧ (∀ e, txtN tx len 27 0 = .inl e → TM M' tx len e) ∧ (∀ L, txtN tx len 27 0 = .inr L → (∃ q', TM M' tx len q') ∧ M'.1 116 21 = nI L.length ∧ ToldL M' 0 L ∧ ∀ cm ∈ L, CmOk cm) := by
  have T1 := (h.go 0).tn (nI 0)
  obtain ⟨M', x1, x2, x3, x4, x5⟩ := y_text10 (N := N) hM 27 0 0 N (sI (sI M 116 19 (nI 0)) 116 21 (nI 0)) (by omega) (by omega) (by omega) (by omega) T1 (sI_same _ _ _ _)
  refine ⟨M', ?_, ((Fr.put (P := onY) (Or.inr ⟨rfl, Or.inl rfl⟩)).trans (Fr.put (Or.inr ⟨rfl, Or.inr rfl⟩))).trans x2, x4, fun L he => ?_⟩
  · unfold fX9_isText; rw [ck_t hM.1]; exact x1
  · obtain ⟨y1, y2, y3, y4⟩ := x5 L he
    exact ⟨y1, by rw [y2, Nat.zero_add], y3, y4⟩
end TY
