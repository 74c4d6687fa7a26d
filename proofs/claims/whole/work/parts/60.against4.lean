/-! ===== LAYER 3: the reference's against, all of it ===== -/
def Ag (M M' : mM) (A : Row) (r : Option (Nat × Nat)) : Prop := Fr onA M M' ∧ RowAt M' 117 A ∧ (∀ q, r = some q → M'.1 116 14 = nI q.2)
section MD
variable {N : Nat} {Z : mZ} {A : Row} {c : Nat}
theorem mD_onA {M : mM} {r : Option (Nat × Nat)} : Fr onA M (mD M r) := mD_fr.mono (fun a j h => Or.inr (Or.inr (Or.inr (Or.inr ⟨h.1, Or.inr (Or.inr h.2)⟩))))
theorem Ag_some {M M1 : mM} {q : Nat × Nat} (h : Fr onA M M1) (hR : RowAt M1 117 A) : Ag M (mD M1 (some q)) A (some q) :=
  ⟨h.trans mD_onA, hR.fr mD_fr (fun j h => by have := h.1; omega), fun y hy => by cases hy; exact sI_same _ _ _ _⟩
theorem m_115 (hN : 5000 ≤ N) (hM : ModAt Z) (w : WF A c) (hc : c + 1 ≤ 1000000) {M : mM} (hR : RowAt M 117 A) {what p l cls : Nat} {tk : Bool} (hk5 : what ≤ 5) (hp : p < A 0) (hl1 : 1 ≤ l) (hl6 : l ≤ 6) (h0 : what = 0 → tk = true → l = A (11 + p)) (h00 : what = 0 → tk = false → l = A (11 + p) + 1)
    (ho : js3 A what p l tk = none → js5 A what p l tk = none → OkA A what p l cls tk) :
    ∃ M', fX9_against_115 N Z 116 (nI what) (nI p) (if tk then 1 else 0) (nI cls) (nI l) M = some (nI (rN (orJ (js3 A what p l tk) (orJ (js4 A what p l) (orJ (js5 A what p l tk) (js6 (doA A what p l cls tk)))))), M') ∧ Ag M M' A (orJ (js3 A what p l tk) (orJ (js4 A what p l) (orJ (js5 A what p l tk) (js6 (doA A what p l cls tk))))) := by
  have e3 := m_byThings (N := N) hN hM w hR hk5 hp hl1 hl6 h0
  unfold fX9_against_115
  rw [ck_t hM.1, e3, bnd2_some]
  cases q3 : js3 A what p l tk with
  | some q =>
    obtain ⟨r, d⟩ := q
    have := js3_lt q3
    subst this
    exact ⟨mD M (some (3, d)), by rw [if_neg (show ¬ nI (rN (some (3, d))) ≤ 0 by show ¬ nI 3 ≤ 0; decide), orJ_s], by rw [orJ_s]; exact Ag_some Fr.rfl hR⟩
  | none =>
    obtain ⟨M1, e4, f4⟩ := m_hasStand (N := N) hN hM w hR hk5 hp hl1 hl6
    have R1 := hR.fr f4 not_onW117
    have f4' : Fr onA M M1 := f4.mono (fun a j h => by
      rcases h with h | h | h
      · exact Or.inr (Or.inr (Or.inl h))
      · exact Or.inr (Or.inr (Or.inr (Or.inl h)))
      · exact Or.inr (Or.inr (Or.inr (Or.inr ⟨h.1, Or.inr (Or.inl h.2)⟩))))
    rw [orJ_n, mD_none, if_pos (show nI (rN none) ≤ 0 by decide), e4, bnd2_some]
    cases q4 : js4 A what p l with
    | some q =>
      obtain ⟨r, d⟩ := q
      have hr := js4_lt q4
      subst hr
      have hd : d = l := by
        unfold js4 at q4; split at q4
        · cases q4
        · cases q4; rfl
      subst hd
      refine ⟨mD M1 (some (4, d)), ?_, by rw [orJ_s]; exact Ag_some f4' R1⟩
      rw [if_pos (by rw [if_neg (fun e => by cases e)]), show fX9_refuses N Z 116 4 (nI d) M1 = some (nI 4, mD M1 (some (4, d))) from m_refuses (r := 4) hM d, bnd2_some, orJ_s]; rfl
    | none =>
      rw [if_neg (by rw [if_pos rfl]; decide), orJ_n, ite_b]
      have go : js5 A what p l tk = none → ∃ M', fX9_against_169 N Z 116 (nI what) (nI p) (if tk then 1 else 0) (nI cls) (nI l) 0 M1 = some (nI (rN (js6 (doA A what p l cls tk))), M') ∧ Ag M M' A (js6 (doA A what p l cls tk)) := fun q5 => by
        obtain ⟨M', x1, x2, x3, x4⟩ := m_169 (N := N) hN hM w hc R1 (ho q3 q5)
        exact ⟨M', x1, f4'.trans x2, x3, x4⟩
      cases tk with
      | true =>
        have q5 : js5 A what p l true = none := by unfold js5; rw [if_pos rfl]
        rw [if_pos rfl, q5, orJ_n]; exact go q5
      | false =>
        rw [if_neg (by decide), m_byYard hM w R1 hk5 hp (fun q => h00 q rfl), bnd2_some]
        cases q5 : js5 A what p l false with
        | none => rw [orJ_n, mD_none]; exact go q5
        | some q =>
          obtain ⟨r, d⟩ := q
          have := js5_lt q5
          subst this
          refine ⟨mD M1 (some (5, d)), ?_, by rw [orJ_s]; exact Ag_some f4' R1⟩
          unfold fX9_against_169
          rw [if_neg (show ¬ nI (rN (some (5, d))) ≤ 0 by show ¬ nI 5 ≤ 0; decide), orJ_s]
end MD
