/-! ===== LAYER 3: the reference's against, from its head ===== -/
section ME
variable {N : Nat} {Z : mZ} {A : Row} {c : Nat}
theorem m_isThere (hM : ModAt Z) (w : WF A c) {M : mM} (hR : RowAt M 117 A) {what p l : Nat} (hk : 2 ≤ what) (hk5 : what ≤ 5) (hp : p < 10) (hl : l < 2147483648) : fX9_isThere N Z 116 (nI what) (nI p) (nI l) M = some (if aHas A what p l then 1 else 0, M) := by
  have hk4 := dk_le (l := l) w hp
  unfold fX9_isThere
  by_cases q : what = 2
  · subst q
    rw [if_pos (show nI 2 = 2 from rfl), ck_t hM.1, m_deckAt hM hR hp hl, bnd2_some, dk_has]
    by_cases q1 : 0 < dk A p l
    · rw [if_neg (by rw [i_0, i_le (by omega) (by omega)]; omega)]; simp [q1]
    · rw [if_pos (by rw [i_0, i_le (by omega) (by omega)]; omega)]; simp [q1]
  · rw [if_neg (by rw [i_2, i_eq (by omega) (by omega)]; exact q), m_rowOf (by omega) hk5, bnd2_some, ck_t hM.1, m_has hM hR w (by omega) hk5 hp hl, bnd2_some, ck_t (isB_ite _)]
theorem m_90 (hN : 5000 ≤ N) (hM : ModAt Z) (w : WF A c) (hc : c + 1 ≤ 1000000) {M : mM} (hR : RowAt M 117 A) {what p cls told l : Nat} {tk : Bool} (hk : what = 0 ∨ (2 ≤ what ∧ what ≤ 5)) (hp : p < A 0) (hcl : what = 2 → tk = false → 1 ≤ cls ∧ cls ≤ 4) (hl : l = lvA A what p told tk) (q1 : js1 A what p l tk = none) :
    ∃ M', fX9_against_90 N Z 116 (nI what) (nI p) (if tk then 1 else 0) (nI cls) (nI l) M = some (nI (rN (jst A what p l cls tk)), M') ∧ Ag M M' A (jst A what p l cls tk) := by
  have h10 := w.1
  have hll := js1_none w hp q1
  have go : js2 A what p l tk = none → ∃ M', fX9_against_115 N Z 116 (nI what) (nI p) (if tk then 1 else 0) (nI cls) (nI l) M = some (nI (rN (jst A what p l cls tk)), M') ∧ Ag M M' A (jst A what p l cls tk) := fun q2 => by
    unfold jst
    rw [q1, q2, orJ_n, orJ_n]
    exact m_115 hN hM w hc hR (by omega) hp hll.1 hll.2.1 (fun a b => by subst a; subst b; exact hl) (fun a b => by subst a; subst b; exact hl) (fun a b => jst_ok w hp hk hl hcl q1 q2 a b)
  unfold fX9_against_90
  by_cases q : what = 0
  · rw [if_pos (by rw [q]; decide)]
    exact go (by unfold js2; rw [if_neg (fun h => h.1 q)])
  · rw [if_neg (by rw [i_0, i_le (by omega) (by omega)]; omega), ck_t hM.1, m_isThere hM w hR (by omega) (by omega) (by omega) (by omega), bnd2_some]
    by_cases q2 : aHas A what p l = tk
    · rw [if_pos (by rw [q2])]
      exact go (by unfold js2; rw [if_neg (fun h => h.2 q2)])
    · have hs : js2 A what p l tk = some (2, l) := by unfold js2; rw [if_pos ⟨q, q2⟩]
      have hr : jst A what p l cls tk = some (2, l) := by unfold jst; rw [q1, hs, orJ_n, orJ_s]
      rw [if_neg (by cases hx : aHas A what p l <;> cases tk <;> first | decide | exact absurd hx q2), hr]
      exact ⟨mD M (some (2, l)), by rw [show fX9_refuses N Z 116 2 (nI l) M = some (nI 2, mD M (some (2, l))) from m_refuses (r := 2) hM l, bnd2_some]; rfl, Ag_some Fr.rfl hR⟩
theorem m_against (hN : 5000 ≤ N) (hM : ModAt Z) (w : WF A c) (hc : c + 1 ≤ 1000000) {M : mM} (hR : RowAt M 117 A) {what p cls : Nat} {x : Int32} {tk : Bool} (hk : what = 0 ∨ (2 ≤ what ∧ what ≤ 5)) (hp : p < A 0) (hcl : what = 2 → tk = false → 1 ≤ cls ∧ cls ≤ 4) :
    ∃ M', fX9_against N Z 116 (nI what) (nI p) x (if tk then 1 else 0) (nI cls) M = some (nI (rN (jst A what p (lvA A what p x.toNatClampNeg tk) cls tk)), M') ∧ Ag M M' A (jst A what p (lvA A what p x.toNatClampNeg tk) cls tk) := by
  have h10 := w.1
  have hh6 := w.2.2.2.2.1 p (by omega)
  have hph := aPH_le w hp
  have hf : hFor A what p ≤ 6 := by unfold hFor; split <;> omega
  obtain ⟨l, hl⟩ : ∃ l, l = lvA A what p x.toNatClampNeg tk := ⟨_, rfl⟩
  rw [← hl]
  have bad : js1 A what p l tk = some (1, hFor A what p) → ∃ M', (ck (okO Z 116 9) (bnd2 (fX9_refuses N Z 116 (1 : Int32) (nI (hFor A what p)) M) (fun r10 M10 => some (r10, M10)))) = some (nI (rN (jst A what p l cls tk)), M') ∧ Ag M M' A (jst A what p l cls tk) := fun h => by
    have hr : jst A what p l cls tk = some (1, hFor A what p) := by unfold jst; rw [h, orJ_s]
    rw [hr]
    exact ⟨mD M (some (1, hFor A what p)), by rw [ck_t hM.1, show fX9_refuses N Z 116 1 (nI (hFor A what p)) M = some (nI 1, mD M (some (1, hFor A what p))) from m_refuses (r := 1) hM _, bnd2_some]; rfl, Ag_some Fr.rfl hR⟩
  have i4 : (nI what = (4 : Int32)) ↔ what = 4 := by rw [i_4, i_eq (by omega) (by omega)]
  have n0 : ¬ what = 0 → ¬ nI what ≤ 0 := fun q => by rw [i_0, i_le (by omega) (by omega)]; omega
  have main : ∃ M', fX9_against_42 N Z 116 (nI what) (nI p) (if tk then 1 else 0) (nI cls) (nI (hFor A what p)) (if what = 0 then nI l else x) M = some (nI (rN (jst A what p l cls tk)), M') ∧ Ag M M' A (jst A what p l cls tk) := by
    unfold fX9_against_42
    by_cases q : what = 0
    · subst q
      have hf0 : hFor A 0 p = A (11 + p) := rfl
      rw [if_pos (show nI 0 ≤ 0 by decide), ite_b, if_pos (show (0 : Nat) = 0 from rfl)]
      cases tk with
      | true =>
        have hl' : l = A (11 + p) := hl
        rw [if_pos rfl]
        by_cases z : A (11 + p) = 0
        · have hb := bad (by unfold js1; rw [if_pos (Or.inl (by omega))])
          rw [if_pos (by rw [hf0, z]; rfl)]; exact hb
        · have h9 := m_90 (cls := cls) hN hM w hc hR hk hp hcl hl (by unfold js1; rw [if_neg (show ¬ ((0 : Nat) = 0 ∧ true = false) from fun q => Bool.noConfusion q.2), if_neg (by omega)])
          rw [if_neg (by rw [hf0, i_0, i_eq (by omega) (by omega)]; exact z)]; exact h9
      | false =>
        have hl' : l = A (11 + p) + 1 := hl
        rw [if_neg (by decide)]
        by_cases z : A (11 + p) = 6
        · have hb := bad (by unfold js1; rw [if_pos (show (0 : Nat) = 0 ∧ false = false from ⟨rfl, rfl⟩), if_pos (Or.inr (by omega))])
          rw [if_pos (by rw [hf0, z]; rfl)]; exact hb
        · have h9 := m_90 (cls := cls) hN hM w hc hR hk hp hcl hl (by unfold js1; rw [if_pos (show (0 : Nat) = 0 ∧ false = false from ⟨rfl, rfl⟩), if_neg (by omega)])
          rw [if_neg (by rw [hf0, i_6, i_eq (by omega) (by omega)]; exact z)]; exact h9
    · have hl' : l = x.toNatClampNeg := by rw [hl]; unfold lvA; rw [if_neg q]
      have hq : ¬ (what = 0 ∧ tk = false) := fun h => q h.1
      rw [if_neg (n0 q), if_neg q]
      rcases i32_cases x with hx | ⟨l', hl2, rfl⟩
      · have hb := bad (by unfold js1; rw [if_pos (Or.inl (by rw [hl', clampNeg hx]; omega))])
        have hi : fX9_in N Z x (1 : Int32) (nI (hFor A what p)) M = some (0, M) := by
          unfold fX9_in; rw [if_pos (show x < 1 by
            rw [Int32.lt_iff_toInt_lt] at hx ⊢
            have a1 : (0 : Int32).toInt = 0 := rfl
            have a2 : (1 : Int32).toInt = 1 := rfl
            omega)]
        rw [hi, bnd2_some, if_pos rfl]; exact hb
      · rw [i_cl hl2] at hl'
        subst hl'
        have hi : fX9_in N Z (nI l) (1 : Int32) (nI (hFor A what p)) M = some (if 1 ≤ l ∧ l ≤ hFor A what p then 1 else 0, M) := m_in (l := 1) hl2 (by omega) (by omega)
        rw [hi, bnd2_some]
        by_cases z : 1 ≤ l ∧ l ≤ hFor A what p
        · have h9 := m_90 (cls := cls) hN hM w hc hR hk hp hcl hl (by unfold js1; rw [if_neg hq, if_neg (by omega)])
          rw [if_pos z, if_neg (by decide)]; exact h9
        · have hb := bad (by unfold js1; rw [if_neg hq, if_pos (by omega)])
          rw [if_neg z, if_pos rfl]; exact hb
  have pre : fX9_against N Z 116 (nI what) (nI p) x (if tk then 1 else 0) (nI cls) M = fX9_against_42 N Z 116 (nI what) (nI p) (if tk then 1 else 0) (nI cls) (nI (hFor A what p)) (if what = 0 then nI l else x) M := by
    unfold fX9_against
    by_cases q4 : what = 4
    · have hf4 : hFor A what p = aPH A p := by unfold hFor; rw [if_pos q4]
      rw [if_pos (i4.2 q4), ck_t hM.1, m_postHigh hM hR w hp, bnd2_some, if_neg (n0 (by omega)), hf4, if_neg (show ¬ what = 0 by omega)]
    · have hf4 : hFor A what p = A (11 + p) := by unfold hFor; rw [if_neg q4]
      rw [if_neg (fun e => q4 (i4.1 e)), ck_t hM.1, m_high hM hR (by omega), bnd2_some, hf4]
      by_cases q : what = 0
      · subst q
        rw [if_pos (show nI 0 ≤ 0 by decide), ite_b, if_pos (show (0 : Nat) = 0 from rfl), nI_1]
        cases tk with
        | true => rw [if_pos rfl, hl]; rfl
        | false => rw [if_neg (by decide), hl]; rfl
      · rw [if_neg (n0 q), if_neg q]
  rw [pre]; exact main
end ME
