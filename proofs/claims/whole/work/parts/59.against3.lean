/-! ===== LAYER 3: the reference's against: yard and trial ===== -/
section MC
variable {N : Nat} {Z : mZ} {A : Row} {c : Nat}
theorem m_byYard66 (hM : ModAt Z) (w : WF A c) {M : mM} (hR : RowAt M 117 A) {x0 x1 : Nat} (h0 : x0 ≤ 1) (h1 : x1 ≤ 1) {r : Option (Nat × Nat)} (hr : r = if A 5 < x1 + x0 then some (5, 0) else if A 6 < 2 then some (5, 1) else none) : fX9_byYard_66 N Z 116 (nI x0) (nI x1) M = some (nI (rN r), mD M r) := by
  have hy := w.2.2.2.2.2.2.2.2.2.2.2.2.1
  have hc := w.2.2.2.2.2.2.2.2.2.2.2.2.2
  have b0 : A 5 ≤ 1000 + 2 * c := hy 0 (by omega)
  have b1 : A 6 ≤ 1000 + 2 * c := hy 1 (by omega)
  have r0 : ∀ d : Nat, fX9_refuses N Z 116 (5 : Int32) (nI d) M = some (nI 5, mD M (some (5, d))) := fun d => m_refuses (r := 5) hM d
  have r1 : fX9_refuses N Z 116 (5 : Int32) (1 : Int32) M = some (nI 5, mD M (some (5, 1))) := r0 1
  have r2 : fX9_refuses N Z 116 (5 : Int32) (0 : Int32) M = some (nI 5, mD M (some (5, 0))) := r0 0
  have y5 := hR 5 (by omega)
  have y6 := hR 6 (by omega)
  have k5 : inB (5 : Int32) 121 = true := by decide
  have k6 : inB (6 : Int32) 121 = true := by decide
  obtain ⟨o1, ⟨o2, -⟩, ⟨g4, g5, g6⟩, -⟩ := hM
  unfold fX9_byYard_66
  simp only [ck_t o1, o2, bnd1_some, ck_t g5, g6, ck_t k5, ck_t k6, cl_5, cl_6, y5, y6, nI_add, r1, r2, bnd2_some]
  by_cases q1 : A 5 < x1 + x0
  · rw [hr, if_pos q1, if_neg (by rw [i_le (by omega) (by omega)]; omega)]; rfl
  · rw [if_pos (by rw [i_le (by omega) (by omega)]; omega)]
    rw [if_neg q1] at hr
    by_cases q2 : A 6 < 2
    · rw [hr, if_pos q2, if_neg (by rw [i_2, i_le (by omega) (by omega)]; omega)]; rfl
    · rw [hr, if_neg q2, if_pos (by rw [i_2, i_le (by omega) (by omega)]; omega)]; rfl
theorem m_byYard (hM : ModAt Z) (w : WF A c) {M : mM} (hR : RowAt M 117 A) {what p l : Nat} (hk5 : what ≤ 5) (hp : p < A 0) (hl : what = 0 → l = A (11 + p) + 1) : fX9_byYard N Z 116 (nI what) (nI p) M = some (nI (rN (js5 A what p l false)), mD M (js5 A what p l false)) := by
  have h4 := w.1
  have hRr := aR_lt w hp
  have hh := w.2.2.2.2.1 p (by omega)
  have hy := w.2.2.2.2.2.2.2.2.2.2.2.2.1
  have hc := w.2.2.2.2.2.2.2.2.2.2.2.2.2
  have p1 := aPH_le w hp
  have p2 := aPH_le w hRr
  have gm := hM
  unfold fX9_byYard
  by_cases q : what = 0
  · subst q
    have hl := hl rfl
    have e1 := m_high (N := N) hM hR (p := p) (by omega)
    have e2 := m_postHigh (N := N) hM hR w hp
    have e3 := m_right (N := N) hM hR w hp
    have e4 := m_postHigh (N := N) hM hR w hRr
    have a2 : aPH A (aR A p) = max (A (11 + p)) (A (11 + aR A p)) := by unfold aPH; rw [(aLR h4.1 hp).1]
    have a1 : aPH A p = max (A (11 + aL A p)) (A (11 + p)) := rfl
    have hs : js5 A 0 p l false = if A 5 < pbl A p l then some (5, 0) else if A 6 < 2 then some (5, 1) else none := by
      unfold js5; rw [if_neg (by decide), if_pos (show (0 : Nat) = 0 from rfl)]
    have y : ∀ x1 x0 : Nat, x0 ≤ 1 → x1 ≤ 1 → pbl A p l = x1 + x0 → fX9_byYard_66 N Z 116 (nI x0) (nI x1) M = some (nI (rN (js5 A 0 p l false)), mD M (js5 A 0 p l false)) := fun x1 x0 h0 h1 hx => m_byYard66 gm w hR h0 h1 (by rw [hs, hx])
    rw [if_pos (show nI 0 ≤ 0 by decide)]
    simp only [ck_t hM.1, e1, bnd2_some, e2, e3, e4, nI_1]
    by_cases c1 : A (11 + p) + 1 ≤ aPH A p
    · rw [if_pos (by rw [i_le (by omega) (by omega)]; exact c1)]
      by_cases c2 : A (11 + p) + 1 ≤ aPH A (aR A p)
      · rw [if_pos (by rw [i_le (by omega) (by omega)]; exact c2)]
        exact y 0 0 (by omega) (by omega) (by unfold pbl; rw [if_neg (by omega), if_neg (by omega)])
      · rw [if_neg (by rw [i_le (by omega) (by omega)]; exact c2)]
        exact y 0 1 (by omega) (by omega) (by unfold pbl; rw [if_neg (by omega), if_pos (by omega)])
    · rw [if_neg (by rw [i_le (by omega) (by omega)]; exact c1)]
      by_cases c2 : A (11 + p) + 1 ≤ aPH A (aR A p)
      · rw [if_pos (by rw [i_le (by omega) (by omega)]; exact c2)]
        exact y 1 0 (by omega) (by omega) (by unfold pbl; rw [if_pos (by omega), if_neg (by omega)])
      · rw [if_neg (by rw [i_le (by omega) (by omega)]; exact c2)]
        exact y 1 1 (by omega) (by omega) (by unfold pbl; rw [if_pos (by omega), if_pos (by omega)])
  · have bk := hy what (by omega)
    have r0 : fX9_refuses N Z 116 (5 : Int32) (nI what) M = some (nI 5, mD M (some (5, what))) := m_refuses (r := 5) hM what
    have yk := hR (5 + what) (by omega)
    obtain ⟨o1, ⟨o2, -⟩, ⟨g4, g5, g6⟩, -⟩ := hM
    rw [if_neg (by rw [i_0, i_le (by omega) (by omega)]; omega), ck_t o1, o2, bnd1_some, ck_t g5, g6, i_5, nI_add, ck_t (by rw [i_inB (by omega)]; exact decide_eq_true (by omega)), i_cl (by omega), yk, ← i_5, r0, bnd2_some]
    unfold js5
    rw [if_neg (show ¬ (false = true) from Bool.noConfusion), if_neg q]
    by_cases q1 : A (5 + what) < 1
    · rw [if_pos (by rw [i_0, i_eq (by omega) (by omega)]; omega), if_pos q1]; rfl
    · rw [if_neg (by rw [i_0, i_eq (by omega) (by omega)]; omega), if_neg q1]; rfl
theorem m_169 (hN : 5000 ≤ N) (hM : ModAt Z) (w : WF A c) (hc : c + 1 ≤ 1000000) {M : mM} (hR : RowAt M 117 A) {what p l cls : Nat} {tk : Bool} (ho : OkA A what p l cls tk) :
    ∃ M', fX9_against_169 N Z 116 (nI what) (nI p) (if tk then 1 else 0) (nI cls) (nI l) 0 M = some (nI (rN (js6 (doA A what p l cls tk))), M') ∧ Fr onA M M' ∧ RowAt M' 117 A ∧ (∀ q, js6 (doA A what p l cls tk) = some q → M'.1 116 14 = nI q.2) := by
  have wB := doA_wf w hc ho
  have gm := hM
  obtain ⟨o1, ⟨r0, -, r2, -⟩, ⟨g4, g5, g6⟩, -, ⟨t4, t5, t6⟩, -⟩ := hM
  obtain ⟨M1, hM1⟩ : ∃ M1, M1 = fillA M 119 (M.1 117) 121 := ⟨_, rfl⟩
  have f1 : Fr onA M M1 := by rw [hM1]; exact (Same.fill (S := fun x => x = 119) rfl).fr.mono (fun a j h => Or.inr (Or.inl h))
  have T1 : RowAt M1 119 A := by rw [hM1]; exact hR.fill
  have R1 : RowAt M1 117 A := fun i hi => by rw [hM1, fillA_ne (by omega)]; exact hR i hi
  obtain ⟨M2, e2, R2, s2⟩ := m_does (N := N) hN gm R1 w hc ho
  have T2 : RowAt M2 119 A := T1.same s2 (fun h => by unfold on117 at h; omega)
  have f2 : Fr onA M M2 := f1.trans (s2.fr.mono (fun a j h => Or.inl h))
  have ew := m_wrong (N := N) hN gm R2 wB
  have tail : ∀ M3, Fr (fun a j => a = 116 ∧ j = 10) M2 M3 → Fr onA M (fillA M3 117 (M3.1 119) 121) ∧ RowAt (fillA M3 117 (M3.1 119) 121) 117 A ∧ fX9_copies N Z 119 117 M3 = some ((), fillA M3 117 (M3.1 119) 121) := fun M3 h3 => by
    refine ⟨(f2.trans (h3.mono (fun a j h => Or.inr (Or.inr (Or.inr (Or.inr ⟨h.1, Or.inl h.2⟩)))))).trans ((Same.fill (S := fun x => x = 117) rfl).fr.mono (fun a j h => Or.inl h)), ?_, m_copies hN t5 t6 g4 g6 (by omega)⟩
    exact (T2.fr h3 (fun j h => by have := h.1; omega)).fill
  have st : ∀ res, (bnd2 (wrR 6 M2 (aUnheld (doA A what p l cls tk)) (wrR 7 M2 (aUnbr (doA A what p l cls tk)) (wrR 8 M2 (aOver (doA A what p l cls tk)) (some (0, M2))))) (fun r26 M26 => bnd2 (fX9_copies N Z 119 117 M26) (fun _ M27 => if r26 = 0 then some ((0 : Int32), M27) else bnd2 (fX9_refuses N Z 116 r26 (M27.1 116 10) M27) (fun r29 M29 => some (r29, M29))))) = some res →
      fX9_against_169 N Z 116 (nI what) (nI p) (if tk then 1 else 0) (nI cls) (nI l) 0 M = some res := fun res h => by
    unfold fX9_against_169
    rw [if_pos (show (0 : Int32) ≤ 0 by decide), ck_t o1, r0, bnd1_some, r2, bnd1_some, m_copies hN g5 g6 t4 t6 (by omega), bnd2_some, ← hM1, e2, bnd2_some, ew]
    exact h
  have bad : ∀ k q : Nat, k ≠ 0 → k < 100 → bnd2 (some (nI k, wrM M2 q)) (fun r26 M26 => bnd2 (fX9_copies N Z 119 117 M26) (fun _ M27 => if r26 = 0 then some ((0 : Int32), M27) else bnd2 (fX9_refuses N Z 116 r26 (M27.1 116 10) M27) (fun r29 M29 => some (r29, M29)))) = some (nI k, sI (fillA (wrM M2 q) 117 ((wrM M2 q).1 119) 121) 116 14 (nI q)) := fun k q hk hk2 => by
    have h10 : (fillA (wrM M2 q) 117 ((wrM M2 q).1 119) 121).1 116 10 = nI q := by rw [fillA_ne (by omega)]; exact sI_same _ _ _ _
    rw [bnd2_some, (tail (wrM M2 q) (Fr.put (P := fun a j => a = 116 ∧ j = 10) ⟨rfl, rfl⟩)).2.2, bnd2_some, if_neg (by rw [i_0, i_eq (by omega) (by omega)]; exact hk), h10, m_refuses gm, bnd2_some]; rfl
  have fin : ∀ k q : Nat, Fr onA M (sI (fillA (wrM M2 q) 117 ((wrM M2 q).1 119) 121) 116 14 (nI q)) ∧ RowAt (sI (fillA (wrM M2 q) 117 ((wrM M2 q).1 119) 121) 116 14 (nI q)) 117 A ∧ (sI (fillA (wrM M2 q) 117 ((wrM M2 q).1 119) 121) 116 14 (nI q)).1 116 14 = nI q := fun k q => by
    have h := tail (wrM M2 q) (Fr.put (P := fun a j => a = 116 ∧ j = 10) ⟨rfl, rfl⟩)
    have h2 : Fr onA (fillA (wrM M2 q) 117 ((wrM M2 q).1 119) 121) (sI (fillA (wrM M2 q) 117 ((wrM M2 q).1 119) 121) 116 14 (nI q)) := Fr.put (Or.inr (Or.inr (Or.inr (Or.inr ⟨rfl, Or.inr (Or.inr rfl)⟩))))
    exact ⟨h.1.trans h2, fun i hi => by rw [sI_ne _ _ (by omega)]; exact h.2.1 i hi, sI_same _ _ _ _⟩
  unfold js6
  cases q1 : aUnheld (doA A what p l cls tk) with
  | some q =>
    refine ⟨_, st _ (by rw [q1]; exact bad 6 q (by omega) (by omega)), (fin 6 q).1, (fin 6 q).2.1, fun y hy => by cases hy; exact (fin 6 q).2.2⟩
  | none =>
    cases q2 : aUnbr (doA A what p l cls tk) with
    | some q =>
      refine ⟨_, st _ (by rw [q1, q2]; exact bad 7 q (by omega) (by omega)), (fin 7 q).1, (fin 7 q).2.1, fun y hy => by cases hy; exact (fin 7 q).2.2⟩
    | none =>
      cases q3 : aOver (doA A what p l cls tk) with
      | some q =>
        refine ⟨_, st _ (by rw [q1, q2, q3]; exact bad 8 q (by omega) (by omega)), (fin 8 q).1, (fin 8 q).2.1, fun y hy => by cases hy; exact (fin 8 q).2.2⟩
      | none =>
        have h := tail M2 Fr.rfl
        refine ⟨fillA M2 117 (M2.1 119) 121, st _ ?_, h.1, h.2.1, fun y hy => by cases hy⟩
        rw [q1, q2, q3]
        show bnd2 (some ((0 : Int32), M2)) _ = _
        rw [bnd2_some, h.2.2, bnd2_some]; rfl
end MC
