/-! ===== LAYER 3: the reference's against, more stages ===== -/
section MB
variable {N : Nat} {Z : mZ} {A : Row} {c : Nat}
theorem mD_none {M : mM} : mD M none = M := rfl
theorem m_byThings (hN : 5000 ≤ N) (hM : ModAt Z) (w : WF A c) {M : mM} (hR : RowAt M 117 A) {what p l : Nat} {tk : Bool} (hk5 : what ≤ 5) (hp : p < A 0) (hl1 : 1 ≤ l) (hl6 : l ≤ 6) (h0 : what = 0 → tk = true → l = A (11 + p)) :
    fX9_byThings N Z 116 (nI what) (nI p) (nI l) (if tk then 1 else 0) M = some (nI (rN (js3 A what p l tk)), mD M (js3 A what p l tk)) := by
  have h10 := w.1
  have i5 : (nI what = (5 : Int32)) ↔ what = 5 := by rw [i_5, i_eq (by omega) (by omega)]
  have i2 : (nI what = (2 : Int32)) ↔ what = 2 := by rw [i_2, i_eq (by omega) (by omega)]
  have i0 : (nI what = (0 : Int32)) ↔ what = 0 := by rw [i_0, i_eq (by omega) (by omega)]
  have d1 := m_deckAt (N := N) hM hR (b := p) (l := l) (by omega) (by omega)
  have d0 := m_deckAt (N := N) hM hR (b := p) (l := l - 1) (by omega) (by omega)
  have k1 := dk_le (l := l) w (show p < 10 by omega)
  have k0 := dk_le (l := l - 1) w (show p < 10 by omega)
  have a1 := m_has101 (N := N) hM hR w (p := p) (l := l) (by omega) (by omega)
  have a2 := m_has101 (N := N) hM hR w (p := p) (l := l + 1) (by omega) (by omega)
  have r : ∀ d : Nat, fX9_refuses N Z 116 (3 : Int32) (nI d) M = some (nI 3, mD M (some (3, d))) := fun d => m_refuses (r := 3) hM d
  have z1 : (nI (dk A p l) = (0 : Int32)) ↔ aHas A 2 p l = false := by rw [i_0, i_eq (by omega) (by omega), dk_has, decide_eq_false_iff_not]; omega
  have z0 : (nI (dk A p (l - 1)) = (0 : Int32)) ↔ aHas A 2 p (l - 1) = false := by rw [i_0, i_eq (by omega) (by omega), dk_has, decide_eq_false_iff_not]; omega
  have g : nI l - 1 = nI (l - 1) := i_sub (b := 1) hl1
  have b111 : ¬ (what = 2 ∧ tk = true) → ¬ (what = 5 ∧ tk = false) → fX9_byThings_111 N Z 116 (nI what) (nI p) (if tk then 1 else 0) M = some (nI (rN (js3 A what p l tk)), mD M (js3 A what p l tk)) := fun q2 q5 => by
    unfold fX9_byThings_111 js3
    rw [if_neg q5, if_neg q2]
    by_cases q0 : what = 0
    · rw [if_pos (i0.2 q0), ite_b]
      cases tk with
      | false => rw [if_neg (by decide), if_neg (fun q => Bool.noConfusion q.2)]; rfl
      | true =>
        have hl := h0 q0 rfl
        have eh := m_hinders (N := N) hN hM w hR hp (by omega)
        rw [if_pos rfl, if_pos ⟨q0, rfl⟩, ck_t hM.1, eh, bnd2_some, eh, bnd2_some, ← hl, r, bnd2_some]
        unfold hnd
        cases q3 : js3h A p l with
        | none => rfl
        | some q =>
          obtain ⟨r', d⟩ := q
          have hr : r' = 3 ∧ 2 ≤ d ∧ d ≤ 5 := by
            unfold js3h at q3; repeat' split at q3
            all_goals first | cases q3; exact ⟨rfl, by omega, by omega⟩ | cases q3
          obtain ⟨rfl, hd, hd5⟩ := hr
          rw [if_neg (by show ¬ nI d ≤ 0; rw [i_0, i_le (by omega) (by omega)]; omega)]; rfl
    · rw [if_neg (fun e => q0 (i0.1 e)), if_neg (fun q => q0 q.1)]; rfl
  have b55 : ¬ (what = 5 ∧ tk = false) → fX9_byThings_55 N Z 116 (nI what) (nI p) (nI l) (if tk then 1 else 0) M = some (nI (rN (js3 A what p l tk)), mD M (js3 A what p l tk)) := fun q5 => by
    unfold fX9_byThings_55
    by_cases q2 : what = 2
    · rw [if_pos (i2.2 q2), ite_b]
      cases tk with
      | false => rw [if_neg (by decide)]; exact b111 (fun q => Bool.noConfusion q.2) q5
      | true =>
        have hs : js3 A what p l true = js3d A p l := by unfold js3; rw [if_neg q5, if_pos (show what = 2 ∧ true = true from ⟨q2, rfl⟩)]
        rw [hs, if_pos rfl]
        unfold js3d
        simp only [ck_t hM.1, a1, bnd2_some, nI_1, a2, r, ite_b]
        cases aHas A 5 p l <;> cases aHas A 5 p (l + 1) <;> rfl
    · rw [if_neg (fun e => q2 (i2.1 e))]; exact b111 (fun q => q2 q.1) q5
  unfold fX9_byThings
  by_cases q5 : what = 5
  · rw [if_pos (i5.2 q5), ite_b]
    cases tk with
    | true => rw [if_pos rfl]; exact b55 (fun q => Bool.noConfusion q.2)
    | false =>
      have hs : js3 A what p l false = js3l A p l := by unfold js3; rw [if_pos (show what = 5 ∧ false = false from ⟨q5, rfl⟩)]
      rw [hs, if_neg (by decide)]
      simp only [ck_t hM.1, d1, d0, g, bnd2_some, r]
      by_cases ql : 1 < l
      · rw [if_neg (by rw [i_1, i_le (by omega) (by omega)]; omega)]
        by_cases x0 : aHas A 2 p (l - 1) = false
        · have hv : js3l A p l = some (3, l - 1) := by unfold js3l; rw [if_pos ⟨ql, x0⟩]
          rw [if_pos (z0.2 x0), hv]; rfl
        · rw [if_neg (fun e => x0 (z0.1 e))]
          by_cases x1 : aHas A 2 p l = false
          · have hv : js3l A p l = some (3, l) := by unfold js3l; rw [if_neg (fun q => x0 q.2), if_pos x1]
            rw [if_pos (z1.2 x1), hv]; rfl
          · have hv : js3l A p l = none := by unfold js3l; rw [if_neg (fun q => x0 q.2), if_neg x1]
            rw [if_neg (fun e => x1 (z1.1 e)), hv]; rfl
      · rw [if_pos (by rw [i_1, i_le (by omega) (by omega)]; omega)]
        by_cases x1 : aHas A 2 p l = false
        · have hv : js3l A p l = some (3, l) := by unfold js3l; rw [if_neg (fun q => ql q.1), if_pos x1]
          rw [if_pos (z1.2 x1), hv]; rfl
        · have hv : js3l A p l = none := by unfold js3l; rw [if_neg (fun q => ql q.1), if_neg x1]
          rw [if_neg (fun e => x1 (z1.1 e)), hv]; rfl
  · rw [if_neg (fun e => q5 (i5.1 e))]; exact b55 (fun q => q5 q.1)
theorem m_hasStand (hN : 5000 ≤ N) (hM : ModAt Z) (w : WF A c) {M : mM} (hR : RowAt M 117 A) {what p l : Nat} (hk5 : what ≤ 5) (hp : p < A 0) (hl1 : 1 ≤ l) (hl6 : l ≤ 6) :
    ∃ M', fX9_hasStand N Z 116 (nI what) (nI p) (nI l) M = some (if js4 A what p l = none then 1 else 0, M') ∧ Fr onW M M' := by
  have h10 := w.1
  have hL := aL_lt w hp
  have i4 : (nI what = (4 : Int32)) ↔ what = 4 := by rw [i_4, i_eq (by omega) (by omega)]
  have sy : (l = 1 ∨ rch A p (l - 1) = true ∨ (what = 4 ∧ rch A (aL A p) (l - 1) = true)) → js4 A what p l = none := fun h => by unfold js4; rw [if_pos h]
  have sn : ¬ (l = 1 ∨ rch A p (l - 1) = true ∨ (what = 4 ∧ rch A (aL A p) (l - 1) = true)) → ¬ js4 A what p l = none := fun h => by unfold js4; rw [if_neg h]; exact fun e => by cases e
  unfold fX9_hasStand
  by_cases q : l = 1
  · refine ⟨M, ?_, Fr.rfl⟩
    rw [if_pos (show nI l = 1 by rw [q]; rfl), if_pos (sy (Or.inl q))]
  · obtain ⟨M', e1, e2, e3, -⟩ := m_walks (N := N) hM w hN hR
    have r1 := m_reached (N := N) hM e3 (b := p) (l := l - 1) (by omega) (by omega)
    have r2 := m_reached (N := N) hM e3 (b := aL A p) (l := l - 1) (by omega) (by omega)
    have hR' := hR.fr e2 not_onW117
    have e4 := m_left (N := N) hM hR' w hp
    have g : nI l - 1 = nI (l - 1) := i_sub (b := 1) hl1
    refine ⟨M', ?_, e2⟩
    rw [if_neg (by rw [i_1, i_eq (by omega) (by omega)]; exact q), ck_t hM.1, e1]
    simp only [bnd2_some, g, r1, r2, e4, ite_b]
    by_cases x1 : rch A p (l - 1) = true
    · rw [if_pos x1, if_pos (sy (Or.inr (Or.inl x1)))]
    · rw [if_neg x1]
      by_cases q4 : what = 4
      · rw [if_pos (i4.2 q4)]
        by_cases x2 : rch A (aL A p) (l - 1) = true
        · rw [if_pos x2, if_pos (sy (Or.inr (Or.inr ⟨q4, x2⟩)))]
        · rw [if_neg x2, if_neg (sn (fun h => h.elim q (fun h => h.elim x1 (fun h => x2 h.2))))]
      · rw [if_neg (fun e => q4 (i4.1 e)), if_neg (sn (fun h => h.elim q (fun h => h.elim x1 (fun h => q4 h.1))))]
end MB
