/-! ===== LAYER 3: the law: one call ===== -/
theorem cmp_same (v : Int64) : lg_cmp v v = 0 := (lg_cmp_eq v v).2 rfl
def LawZ (Z : mZ) (L : Nat) : Prop := ClsAt Z ∧ ModAt Z ∧ (okO Z 129 22 = true ∧ Z.2.2.1 129 = 1) ∧ (okO Z 130 23 = true ∧ Z.2.2.1 130 = 1) ∧ Z.2.2.1 0 = L
def LI (xs : Nat → Int32) (c : Nat) (Z : mZ) (M : mM) : Prop := (∀ j, M.1 0 j = xs j) ∧ Stat Z M ∧ ∃ σ, CS M σ ∧ MS M σ ∧ WS c σ
theorem stat_lo {Z : mZ} {M M' : mM} (h : Stat Z M) (m : ∀ r, r < 8 → ∀ j, M'.1 r j = M.1 r j) : Stat Z M' := by
  unfold Stat
  rw [m 1 (by omega), m 1 (by omega), m 1 (by omega), m 2 (by omega), m 2 (by omega), m 2 (by omega), m 3 (by omega), m 3 (by omega), m 3 (by omega), m 4 (by omega), m 4 (by omega), m 4 (by omega), m 4 (by omega), m 4 (by omega)]
  exact h
theorem LI.mono {xs : Nat → Int32} {c c' : Nat} {Z : mZ} {M : mM} (h : LI xs c Z M) (h1 : c ≤ c') (h2 : c' ≤ 1000000) : LI xs c' Z M := by
  obtain ⟨a, b, σ, x, y, z⟩ := h
  exact ⟨a, b, σ, x, y, z.mono h1 h2⟩
theorem CS.mo {M M' : mM} {σ : St} (h : CS M σ) (s : Mo M M') : CS M' σ := CI.mo h s
theorem MS.cl {M M' : mM} {σ : St} (h : MS M σ) (s : Cl M M') : MS M' σ := MI.cl h s
theorem cat_1 {s : String} {nm : Nat → String} (h1 : nm 1 = s) (h2 : nm 2 = s) (h3 : nm 3 = s) : ∀ (k : Nat) (M2 : mM), 1 ≤ k → k ≤ 3 → fstN nm k → (if nm k = s then some ((1 : Int32), M2) else none) = some (nI k, M2) := fun k M2 a b f => by
  rcases (show k = 1 ∨ k = 2 ∨ k = 3 by omega) with rfl | rfl | rfl
  · rw [if_pos h1]; rfl
  · exact absurd (h1.trans h2.symm) (f 1 (by omega) (by omega))
  · exact absurd (h1.trans h3.symm) (f 1 (by omega) (by omega))
theorem cat_2 {s1 s2 : String} {nm : Nat → String} (hne : s2 ≠ s1) (h1 : nm 1 = s1) (h2 : nm 2 = s2) (h3 : nm 3 = s2) : ∀ (k : Nat) (M2 : mM), 1 ≤ k → k ≤ 3 → fstN nm k → (if nm k = s1 then some ((1 : Int32), M2) else if nm k = s2 then some ((2 : Int32), M2) else none) = some (nI k, M2) := fun k M2 a b f => by
  rcases (show k = 1 ∨ k = 2 ∨ k = 3 by omega) with rfl | rfl | rfl
  · rw [if_pos h1]; rfl
  · rw [if_neg (by rw [h2]; exact hne), if_pos h2]; rfl
  · exact absurd (h2.trans h3.symm) (f 2 (by omega) (by omega))
theorem cat_3 {s1 s2 s3 : String} {nm : Nat → String} (h21 : s2 ≠ s1) (h31 : s3 ≠ s1) (h32 : s3 ≠ s2) (h1 : nm 1 = s1) (h2 : nm 2 = s2) (h3 : nm 3 = s3) : ∀ (k : Nat) (M2 : mM), 1 ≤ k → k ≤ 3 → fstN nm k → (if nm k = s1 then some ((1 : Int32), M2) else if nm k = s2 then some ((2 : Int32), M2) else if nm k = s3 then some ((3 : Int32), M2) else none) = some (nI k, M2) := fun k M2 a b f => by
  rcases (show k = 1 ∨ k = 2 ∨ k = 3 by omega) with rfl | rfl | rfl
  · rw [if_pos h1]; rfl
  · rw [if_neg (by rw [h2]; exact h21), if_pos h2]; rfl
  · rw [if_neg (by rw [h3]; exact h31), if_neg (by rw [h3]; exact h32), if_pos h3]; rfl
theorem m_thrown {N : Nat} {Z : mZ} {M : mM} (hM : ModAt Z) : fX9_thrown N Z 116 M = some (M.1 116 9, M) := by unfold fX9_thrown; rw [ck_t hM.1]
theorem law_call {N L c' : Nat} {xs : Nat → Int32} {Z : mZ} {M : mM} {σ : St} {RC : Option ((Int32 ⊕ String) × mM)} {RM : mM → Option (Int32 × mM)} {nm : Nat → String} {cats : String → mM → Option (Int32 × mM)} {fl : Option (Int32 × mM)}
    (hfl : fl = ck (okO Z 8 8) (bndT RC (fun r2 M2 => ck (okO Z 129 22) (ck (inB (0 : Int32) (Z.2.2.1 129)) (some ((0 : Int32), (sL M2 129 ((0 : Int32)).toNatClampNeg ((r2).toInt64)))))) cats))
    (hZ : LawZ Z L) (hx : ∀ j, M.1 0 j = xs j) (hs : Stat Z M) (hm : MS M σ) (hop : OpOK M σ c' RC RM nm) (hcat : ∀ (k : Nat) (M2 : mM), 1 ≤ k → k ≤ 3 → fstN nm k → cats (nm k) M2 = some (nI k, M2)) :
    ∃ (k : Nat) (M13 : mM), fl = some (nI k, M13) ∧ (∀ j, M13.1 0 j = xs j) ∧ k ≤ 3 ∧ ∃ (b : Int32) (M16 : mM), RM M13 = some (b, M16) ∧ fX9_thrown N Z 116 M16 = some (nI k, M16) ∧ (k = 0 → lg_cmp (M16.2.1 129 ((0 : Int32)).toNatClampNeg) ((b).toInt64) = 0) ∧ LI xs c' Z M16 := by
  obtain ⟨o, σ', ⟨M1, e1, cl, cs⟩, mk, hk, ws⟩ := hop
  have sx : ∀ M13 : mM, M13.1 = M1.1 → (∀ j, M13.1 0 j = xs j) ∧ Stat Z M13 ∧ MS M13 σ ∧ CS M13 σ' := fun M13 e => by
    have e0 : ∀ r, r < 8 → ∀ j, M13.1 r j = M.1 r j := fun r hr j => by rw [e]; exact cl r (Or.inl hr) j
    refine ⟨fun j => by rw [e0 0 (by omega) j]; exact hx j, stat_lo hs e0, hm.cl (fun a ha j => by rw [e]; exact cl a ha j), ?_⟩
    have hc : Cl M1 M13 := fun a ha j => by rw [e]
    obtain ⟨z, m1, m2, m3⟩ := M13
    cases e
    exact cs
  have fin : ∀ M13 M16 : mM, (∀ j, M13.1 0 j = xs j) → Stat Z M13 → CS M13 σ' → Mo M13 M16 → MS M16 σ' → LI xs c' Z M16 := fun M13 M16 a b d mo ms => ⟨fun j => by rw [mo.1 0 (by omega)]; exact a j, stat_lo b (fun r hr j => mo.1 r (by omega) j), σ', d.mo mo, ms, ws⟩
  cases o with
  | inl v =>
    have e1' : RC = some (.inl v, M1) := e1
    obtain ⟨a1, a2, a3, a4⟩ := sx (sL M1 129 ((0 : Int32)).toNatClampNeg ((v).toInt64)) rfl
    obtain ⟨b, M16, y1, y2, y3, y4, y5⟩ := mk _ a3
    refine ⟨0, _, ?_, a1, by omega, b, M16, y1, by rw [m_thrown hZ.2.1, y3]; rfl, fun _ => ?_, fin _ _ a1 a2 a4 y2 y5⟩
    · rw [hfl, ck_t hZ.1.1, e1']
      show ck (okO Z 129 22) _ = _
      rw [ck_t hZ.2.2.1.1, ck_t (by rw [hZ.2.2.1.2]; decide)]; rfl
    · have e0 : (sL M1 129 ((0 : Int32)).toNatClampNeg ((v).toInt64)).2.1 129 ((0 : Int32)).toNatClampNeg = (v).toInt64 := by simp [sL]
      rw [y2.2, y4 v rfl, e0]; exact cmp_same _
  | inr k =>
    have e1' : RC = some (.inr (nm k), M1) := e1
    obtain ⟨k1, k3, kf⟩ := hk k rfl
    obtain ⟨a1, a2, a3, a4⟩ := sx M1 rfl
    obtain ⟨b, M16, y1, y2, y3, y4, y5⟩ := mk _ a3
    refine ⟨k, M1, ?_, a1, k3, b, M16, y1, by rw [m_thrown hZ.2.1, y3]; rfl, fun z => by omega, fin _ _ a1 a2 a4 y2 y5⟩
    rw [hfl, ck_t hZ.1.1, e1']
    exact hcat k M1 k1 k3 kf
