/-! ===== LAYER 3: the reference's against, its stages ===== -/
def mD (M : mM) (r : Option (Nat × Nat)) : mM := match r with
  | none => M
  | some q => sI M 116 14 (nI q.2)
def onA (a j : Nat) : Prop := a = 117 ∨ a = 119 ∨ a = 123 ∨ a = 124 ∨ (a = 116 ∧ (j = 10 ∨ j = 13 ∨ j = 14))
theorem mD_fr {M : mM} {r : Option (Nat × Nat)} : Fr (fun a j => a = 116 ∧ j = 14) M (mD M r) := by
  cases r with
  | none => exact Fr.rfl
  | some q => exact Fr.put (P := fun a j => a = 116 ∧ j = 14) ⟨rfl, rfl⟩
theorem dk_has {A : Row} {p l : Nat} : aHas A 2 p l = decide (0 < dk A p l) := by
  unfold aHas dk
  rw [show mkS A 2 p = dm A p from rfl]
  by_cases q : 1 ≤ l ∧ l ≤ 6
  · rw [if_pos q, dm_bit A p q.1 q.2]; simp [q.1, q.2]
  · rw [if_neg q]
    rcases (show l < 1 ∨ 6 < l by omega) with x | x
    · simp [show ¬ 1 ≤ l by omega]
    · simp [show ¬ l ≤ 6 by omega]
/-- the highest of a set, as the reference looks for it -/
def hiF (t : Nat) : Nat → Nat → Nat → Nat
  | 0, most, _ => most
  | j + 1, most, l => hiF t j (if t.testBit l then l else most) (l + 1)
theorem hiF_s (t j most l : Nat) : hiF t (j + 1) most l = hiF t j (if t.testBit l then l else most) (l + 1) := rfl
theorem hiF_all : ∀ t, t < 128 → ∀ v, v < 7 → (∀ l, l < 7 → v < l → t.testBit l = false) → hiF t 6 0 1 ≤ v ∧ (1 ≤ v → decide (hiF t 6 0 1 = v) = t.testBit v) := by decide +kernel
section MA
variable {N : Nat} {Z : mZ} {A : Row} {c : Nat}
theorem m_refuses (hM : ModAt Z) {M : mM} (r d : Nat) : fX9_refuses N Z 116 (nI r) (nI d) M = some (nI r, mD M (some (r, d))) := by
  unfold fX9_refuses; rw [ck_t hM.1]; rfl
theorem m_highest4 (hM : ModAt Z) (w : WF A c) {M : mM} (hR : RowAt M 117 A) {p : Nat} (hp : p < 10) : ∀ (j l fu most : Nat), l + j = 7 → 1 ≤ l → j < fu → fX9_highest_4 N Z fu 116 (nI p) (nI most) (nI l) M = some (nI (hiF (A (111 + p)) j most l), M) := by
  intro j
  induction j with
  | zero =>
    intro l fu most h1 h2 h3
    obtain ⟨fu, rfl⟩ : ∃ q, fu = q + 1 := ⟨fu - 1, by omega⟩
    rw [fX9_highest_4, if_pos (by rw [i_6, i_lt (by omega) (by omega)]; omega)]; rfl
  | succ j ih =>
    intro l fu most h1 h2 h3
    obtain ⟨fu, rfl⟩ : ∃ q, fu = q + 1 := ⟨fu - 1, by omega⟩
    have hq : aHas A 4 p l = (A (111 + p)).testBit l := by
      unfold aHas; rw [mkS_row (by omega), show rwB 4 = 111 from rfl]; simp [h2, show l ≤ 6 by omega]
    rw [fX9_highest_4, if_neg (by rw [i_6, i_lt (by omega) (by omega)]; omega), ck_t hM.1, m_has111 hM hR w hp (by omega), bnd2_some, ite_b, hq, nI_1, ih (l + 1) fu most (by omega) (by omega) (by omega), ih (l + 1) fu l (by omega) (by omega) (by omega)]
    rw [hiF_s]
    cases (A (111 + p)).testBit l <;> rfl
theorem m_highest (hN : 5000 ≤ N) (hM : ModAt Z) (w : WF A c) {M : mM} (hR : RowAt M 117 A) {p : Nat} (hp : p < 10) : fX9_highest N Z 116 (nI p) M = some (nI (hiF (A (111 + p)) 6 0 1), M) := by
  unfold fX9_highest
  exact m_highest4 hM w hR hp 6 1 N 0 (by omega) (by omega) (by omega)
theorem hi_gt (w : WF A c) {q p o : Nat} (hq : q < 10) (h1 : 1 ≤ A (11 + p)) (h6 : A (11 + p) ≤ 6) (ho : o ≤ 6) (hph : aPH A q = max o (A (11 + p))) : (max (A (11 + p) - 1) o < hiF (A (111 + q)) 6 0 1) ↔ (o < A (11 + p) ∧ (A (111 + q)).testBit (A (11 + p)) = true) := by
  have ht := w.2.2.2.2.2.2.2.2.2.2.1 q hq
  have hb : ∀ l, l < 7 → aPH A q < l → (A (111 + q)).testBit l = false := fun l _ hl => by
    cases x : (A (111 + q)).testBit l with
    | false => rfl
    | true => have := (ht.2 l x).2.1; omega
  have hv := hiF_all _ ht.1 (aPH A q) (by omega) hb
  constructor
  · intro h
    have h2 : aPH A q = A (11 + p) := by omega
    have h3 : hiF (A (111 + q)) 6 0 1 = A (11 + p) := by omega
    refine ⟨by omega, ?_⟩
    have := hv.2 (by omega)
    rw [h2, h3] at this
    rw [← this]; simp
  · rintro ⟨h2, h3⟩
    have h4 : aPH A q = A (11 + p) := by omega
    have := hv.2 (by omega)
    rw [h4, h3] at this
    have := of_decide_eq_true this
    omega
/-- what hinders -/
def hnd (A : Row) (p l : Nat) : Nat := rD (js3h A p l)
theorem m_hinders (hN : 5000 ≤ N) (hM : ModAt Z) (w : WF A c) {M : mM} (hR : RowAt M 117 A) {p : Nat} (hp : p < A 0) (h1 : 1 ≤ A (11 + p)) : fX9_hinders N Z 116 (nI p) M = some (nI (hnd A p (A (11 + p))), M) := by
  have h4 := w.1
  have hL := aL_lt w hp
  have hRr := aR_lt w hp
  have hh := w.2.2.2.2.1 p (by omega)
  have hhL := w.2.2.2.2.1 (aL A p) (by omega)
  have hhR := w.2.2.2.2.1 (aR A p) (by omega)
  have hd4 := dk_le (l := A (11 + p)) w (show p < 10 by omega)
  have t1 := hi_gt w (q := p) (p := p) (o := A (11 + aL A p)) (by omega) h1 hh hhL rfl
  have t2 := hi_gt w (q := aR A p) (p := p) (o := A (11 + aR A p)) (by omega) h1 hh hhR (by unfold aPH; rw [(aLR h4.1 hp).1, Nat.max_comm])
  have n1 := hiF_all (A (111 + p)) (w.2.2.2.2.2.2.2.2.2.2.1 p (by omega)).1 6 (by omega) (fun l h1 h2 => by omega)
  have n2 := hiF_all (A (111 + aR A p)) (w.2.2.2.2.2.2.2.2.2.2.1 (aR A p) (by omega)).1 6 (by omega) (fun l h1 h2 => by omega)
  have hq : ∀ q, aHas A 4 q (A (11 + p)) = (A (111 + q)).testBit (A (11 + p)) := fun q => by
    unfold aHas; rw [mkS_row (by omega), show rwB 4 = 111 from rfl]; simp [h1, hh]
  have e1 := m_high (N := N) hM hR (p := p) (by omega)
  have e2 := m_deckAt (N := N) hM hR (b := p) (l := A (11 + p)) (by omega) (by omega)
  have e3 := m_has91 (N := N) hM hR w (p := p) (l := A (11 + p)) (by omega) (by omega)
  have e4 := m_highest (N := N) hN hM w hR (p := p) (by omega)
  have e5 := m_left (N := N) hM hR w hp
  have e6 := m_high (N := N) hM hR (p := aL A p) (by omega)
  have e7 := m_right (N := N) hM hR w hp
  have e8 := m_highest (N := N) hN hM w hR (p := aR A p) (by omega)
  have e9 := m_high (N := N) hM hR (p := aR A p) (by omega)
  have e10 := m_has101 (N := N) hM hR w (p := p) (l := A (11 + p)) (by omega) (by omega)
  have g1 : nI (A (11 + p)) - 1 = nI (A (11 + p) - 1) := i_sub (b := 1) h1
  have g2 := m_greater (N := N) (Z := Z) (M := M) (a := A (11 + p) - 1) (b := A (11 + aL A p)) (by omega) (by omega)
  have g3 := m_greater (N := N) (Z := Z) (M := M) (a := A (11 + p) - 1) (b := A (11 + aR A p)) (by omega) (by omega)
  have H2 : aHas A 2 p (A (11 + p)) = true ↔ 0 < dk A p (A (11 + p)) := by rw [dk_has]; exact decide_eq_true_iff
  have HT : tbl A p (A (11 + p)) = true ↔ ((A (11 + aL A p) < A (11 + p) ∧ (A (111 + p)).testBit (A (11 + p)) = true) ∨ (A (11 + aR A p) < A (11 + p) ∧ (A (111 + aR A p)).testBit (A (11 + p)) = true)) := by
    unfold tbl; rw [hq, hq, Bool.or_eq_true, Bool.and_eq_true, Bool.and_eq_true, decide_eq_true_iff, decide_eq_true_iff]
  unfold fX9_hinders
  simp only [ck_t hM.1, e1, bnd2_some, e2, e3, e4, e5, e6, e7, e8, e9, e10, g1, g2, g3]
  by_cases q1 : 0 < dk A p (A (11 + p))
  · have : hnd A p (A (11 + p)) = 2 := by unfold hnd js3h; rw [if_pos (H2.2 q1)]; rfl
    rw [if_neg (by rw [i_0, i_le (by omega) (by omega)]; omega), this]; rfl
  rw [if_pos (by rw [i_0, i_le (by omega) (by omega)]; omega), ite_b]
  by_cases q2 : aHas A 3 p (A (11 + p)) = true
  · have : hnd A p (A (11 + p)) = 3 := by unfold hnd js3h; rw [if_neg (fun x => q1 (H2.1 x)), if_pos q2]; rfl
    rw [if_pos q2, this]; rfl
  rw [if_neg q2]
  by_cases c1 : A (11 + aL A p) < A (11 + p) ∧ (A (111 + p)).testBit (A (11 + p)) = true
  · have : hnd A p (A (11 + p)) = 4 := by unfold hnd js3h; rw [if_neg (fun x => q1 (H2.1 x)), if_neg q2, if_pos (HT.2 (Or.inl c1))]; rfl
    rw [if_pos (by rw [i_lt (by omega) (by omega)]; exact t1.2 c1), this]; rfl
  rw [if_neg (by rw [i_lt (by omega) (by omega)]; exact fun x => c1 (t1.1 x))]
  by_cases c2 : A (11 + aR A p) < A (11 + p) ∧ (A (111 + aR A p)).testBit (A (11 + p)) = true
  · have : hnd A p (A (11 + p)) = 4 := by unfold hnd js3h; rw [if_neg (fun x => q1 (H2.1 x)), if_neg q2, if_pos (HT.2 (Or.inr c2))]; rfl
    have hx := t2.2 c2
    rw [if_neg (by rw [i_le (by omega) (by omega)]; omega), this]; rfl
  have hx : ¬ max (A (11 + p) - 1) (A (11 + aR A p)) < hiF (A (111 + aR A p)) 6 0 1 := fun x => c2 (t2.1 x)
  rw [if_pos (by rw [i_le (by omega) (by omega)]; omega), ite_b]
  by_cases q5 : aHas A 5 p (A (11 + p)) = true
  · have : hnd A p (A (11 + p)) = 5 := by unfold hnd js3h; rw [if_neg (fun x => q1 (H2.1 x)), if_neg q2, if_neg (fun x => (HT.1 x).elim c1 c2), if_pos q5]; rfl
    rw [if_pos q5, this]; rfl
  · have : hnd A p (A (11 + p)) = 0 := by unfold hnd js3h; rw [if_neg (fun x => q1 (H2.1 x)), if_neg q2, if_neg (fun x => (HT.1 x).elim c1 c2), if_neg q5]; rfl
    rw [if_neg q5, this]; rfl
end MA
