/-! ===== LAYER 3: ties that are fewest ===== -/
def ltB (best : Option Nat) (s : Nat) : Bool := match best with
  | none => true
  | some b => decide (pc s < pc b)
def ltF (span over h : Nat) : Nat → Nat → Option Nat → Option Nat
  | 0, _, best => best
  | j + 1, s, best => ltF span over h j (s + 2) (if held s span over h && ltB best s then some s else best)
theorem ltF_s (span over h j s : Nat) (best : Option Nat) : ltF span over h (j + 1) s best = ltF span over h j (s + 2) (if held s span over h && ltB best s then some s else best) := rfl
theorem shl2_all : ∀ h, h < 13 → (2 : Int32) <<< (nI h &&& 31) = nI (2 ^ (h + 1)) := by decide +kernel
theorem pc_lt : ∀ h, h < 13 → ∀ i, i < 128 → ∀ j, j < 64 → 64 * i + j < 2 ^ (h + 1) → (64 * i + j) % 2 = 0 → pc (64 * i + j) ≤ h := by decide +kernel
section LT
variable {N : Nat} {Z : mZ} {A : Row} {c : Nat}
theorem bit_hi {s h i : Nat} (hs : s < 2 ^ (h + 1)) (hi : h < i) : s.testBit i = false :=
  Nat.testBit_lt_two_pow (Nat.lt_of_lt_of_le hs (Nat.pow_le_pow_right (show 0 < 2 by decide) hi))
theorem m_least4 (hN : 5000 ≤ N) (hM : ModAt Z) (w : WF A c) {M : mM} (hR : RowAt M 117 A) {h : Nat} (hh : h ≤ 12) : ∀ (j s fu : Nat) (best : Option Nat), s + 2 * j = 2 ^ (h + 1) → j < fu → (∀ b, best = some b → b < 8192) →
    fX9_leastTies_4 N Z fu 116 (nI h) (optI best) (nI s) M = some (optI (ltF (A 1) (A 2) h j s best), M) := by
  have h1 := w.2.1
  have h2 := w.2.2.1
  have hp : 2 ^ (h + 1) ≤ 2 ^ 13 := Nat.pow_le_pow_right (by decide) (by omega)
  have gm := hM
  obtain ⟨o1, ⟨o2, -⟩, ⟨g4, g5, g6⟩, -⟩ := hM
  intro j
  induction j with
  | zero =>
    intro s fu best h3 h4 hb
    obtain ⟨fu, rfl⟩ : ∃ q, fu = q + 1 := ⟨fu - 1, by omega⟩
    rw [fX9_leastTies_4, shl2_all _ (by omega), if_pos (by rw [i_le (by omega) (by omega)]; omega)]; rfl
  | succ j ih =>
    intro s fu best h3 h4 hb
    obtain ⟨fu, rfl⟩ : ∃ q, fu = q + 1 := ⟨fu - 1, by omega⟩
    have e := m_isHeldBy (N := N) (Z := Z) (M := M) (ties := s) (span := A 1) (over := A 2) (h := h) hN (by omega) (by omega) (by omega) hh (fun i hi => bit_hi (show s < 2 ^ (h + 1) by omega) hi)
    have i1 := fun bst hb => ih (s + 2) fu bst (by omega) (by omega) hb
    have n2 : nI s + 2 = nI (s + 2) := nI_add s 2
    rw [fX9_leastTies_4, shl2_all _ (by omega), if_neg (by rw [i_le (by omega) (by omega)]; omega), ck_t o1, o2, bnd1_some, ck_t g5, g6, ck_t (by decide), ck_t (by decide), cl_1, cl_2, hR 1 (by omega), hR 2 (by omega), e, bnd2_some, ite_b, n2, ltF_s]
    cases held s (A 1) (A 2) h with
    | false => rw [if_neg (by decide), i1 best hb]; rfl
    | true =>
      rw [if_pos rfl]
      cases best with
      | none =>
        rw [if_pos (show optI none < 0 by decide)]
        exact i1 (some s) (fun b hb => by cases hb; omega)
      | some b =>
        have hb8 := hb b rfl
        rw [show optI (some b) = nI b from rfl, if_neg (show ¬ nI b < 0 from nI_pos (by omega)), m_bits hN (by omega), bnd2_some, m_bits hN hb8, bnd2_some]
        have p1 := pc_le s
        have p2 := pc_le b
        by_cases q : pc s < pc b
        · rw [if_neg (by rw [i_le (by omega) (by omega)]; omega), show (true && ltB (some b) s) = true by show (true && decide (pc s < pc b)) = true; simp [q]]
          exact i1 (some s) (fun b hb => by cases hb; omega)
        · rw [if_pos (by rw [i_le (by omega) (by omega)]; omega), show (true && ltB (some b) s) = false by show (true && decide (pc s < pc b)) = false; simp [q]]
          exact i1 (some b) hb
theorem ltF_none {span over h : Nat} : ∀ (j s : Nat) (best : Option Nat), ltF span over h j s best = none → best = none ∧ ∀ i, i < j → held (s + 2 * i) span over h = false := by
  intro j
  induction j with
  | zero => intro s best hn; exact ⟨hn, fun i hi => absurd hi (by omega)⟩
  | succ j ih =>
    intro s best hn
    rw [ltF_s] at hn
    obtain ⟨h1, h2⟩ := ih _ _ hn
    have h3 : (held s span over h && ltB best s) = false := by
      cases q : (held s span over h && ltB best s) with
      | false => rfl
      | true => rw [q, if_pos rfl] at h1; cases h1
    rw [h3, if_neg (by decide)] at h1
    subst h1
    rw [show ltB none s = true from rfl, Bool.and_true] at h3
    refine ⟨rfl, fun i hi => ?_⟩
    cases i with
    | zero => exact h3
    | succ i => have := h2 i (by omega); rw [show s + 2 + 2 * i = s + 2 * (i + 1) by omega] at this; exact this
theorem ltF_lt {span over h m : Nat} : ∀ (j s : Nat) (best : Option Nat), s + 2 * j ≤ m → (∀ b, best = some b → b < m) → ∀ r, ltF span over h j s best = some r → r < m := by
  intro j
  induction j with
  | zero => intro s best _ hb r hr; exact hb r hr
  | succ j ih =>
    intro s best h1 hb r hr
    rw [ltF_s] at hr
    refine ih _ _ (by omega) (fun b h2 => ?_) r hr
    cases q : (held s span over h && ltB best s) with
    | false => rw [q, if_neg (by decide)] at h2; exact hb b h2
    | true => rw [q, if_pos rfl] at h2; cases h2; omega
theorem full_held : ∀ h, h < 13 → ∀ span, span < 5 → 1 ≤ span → ∀ over, over < 4 → held (2 ^ (h + 1) - 2) span over h = true := by decide +kernel
def aLt (A : Row) (h : Nat) : Nat := (ltF (A 1) (A 2) h (2 ^ h) 0 none).getD 0
theorem lt_some (w : WF A c) {h : Nat} (hh : h ≤ 12) : ltF (A 1) (A 2) h (2 ^ h) 0 none = some (aLt A h) ∧ aLt A h < 8192 := by
  have h1 := w.2.1
  have h2 := w.2.2.1
  have hp : 2 ^ (h + 1) ≤ 2 ^ 13 := Nat.pow_le_pow_right (by decide) (by omega)
  have hs : 2 ^ (h + 1) = 2 * 2 ^ h := by rw [Nat.pow_succ]; omega
  have hq : 0 < 2 ^ h := Nat.pow_pos (by decide)
  cases q : ltF (A 1) (A 2) h (2 ^ h) 0 none with
  | none =>
    exfalso
    have h3 := (ltF_none _ _ _ q).2 (2 ^ h - 1) (by omega)
    have h4 := full_held h (by omega) (A 1) (by omega) (by omega) (A 2) (by omega)
    rw [show 0 + 2 * (2 ^ h - 1) = 2 ^ (h + 1) - 2 by omega, h4] at h3
    cases h3
  | some r =>
    have h3 : aLt A h = r := by unfold aLt; rw [q]; rfl
    have h4 := ltF_lt (m := 2 ^ (h + 1)) (2 ^ h) 0 none (by omega) (fun b hb => by cases hb) r q
    rw [h3]; exact ⟨rfl, by omega⟩
theorem m_least (hN : 5000 ≤ N) (hM : ModAt Z) (w : WF A c) {M : mM} (hR : RowAt M 117 A) {h : Nat} (hh : h ≤ 12) : fX9_leastTies N Z 116 (nI h) M = some (nI (aLt A h), M) := by
  have hs : 2 ^ (h + 1) = 2 * 2 ^ h := by rw [Nat.pow_succ]; omega
  have hp : 2 ^ h ≤ 2 ^ 12 := Nat.pow_le_pow_right (by decide) hh
  have e := m_least4 (N := N) hN hM w hR hh (2 ^ h) 0 N none (by omega) (by omega) (fun b hb => by cases hb)
  rw [(lt_some w hh).1] at e
  exact e
theorem k_least35 (hN : 5000 ≤ N) {M : mM} {span over h : Nat} (hs : span < 100) (ho : over < 100) (hh : h ≤ 12) : ∀ (j s fu : Nat) (best : Option Nat) (bst few : Nat), s + 2 * j = 2 ^ (h + 1) → j < fu → s % 2 = 0 → ((best = none ∧ bst = 0 ∧ few = h + 1) ∨ (best = some bst ∧ few = pc bst)) →
    fX8_leastTieSet_35 N Z fu (nI h) (nI span) (nI over) (nI bst) (nI few) (nI s) M = some (nI ((ltF span over h j s best).getD 0), M) := by
  have hp : 2 ^ (h + 1) ≤ 2 ^ 13 := Nat.pow_le_pow_right (by decide) (by omega)
  intro j
  induction j with
  | zero =>
    intro s fu best bst few h3 h4 h5 h6
    obtain ⟨fu, rfl⟩ : ∃ q, fu = q + 1 := ⟨fu - 1, by omega⟩
    rw [fX8_leastTieSet_35, shl2_all _ (by omega), if_pos (by rw [i_le (by omega) (by omega)]; omega)]
    rcases h6 with ⟨rfl, rfl, -⟩ | ⟨rfl, -⟩ <;> rfl
  | succ j ih =>
    intro s fu best bst few h3 h4 h5 h6
    obtain ⟨fu, rfl⟩ : ∃ q, fu = q + 1 := ⟨fu - 1, by omega⟩
    have n2 : nI s + 2 = nI (s + 2) := nI_add s 2
    have hps := pc_le s
    have hfew : few ≤ 13 := by rcases h6 with ⟨-, -, rfl⟩ | ⟨-, rfl⟩; omega; exact pc_le _
    have i1 := fun bst few hq => ih (s + 2) fu best bst few (by omega) (by omega) (by omega) hq
    have i2 := ih (s + 2) fu (some s) s (pc s) (by omega) (by omega) (by omega) (Or.inr ⟨rfl, rfl⟩)
    have e := k_isHeld (N := N) (Z := Z) (M := M) (ties := s) (span := span) (over := over) (h := h) hN (by omega) hs ho (by omega)
    have hlt : ltB best s = decide (pc s < few) := by
      rcases h6 with ⟨rfl, -, rfl⟩ | ⟨rfl, rfl⟩
      · have := pc_lt h (by omega) (s / 64) (by omega) (s % 64) (by omega) (by omega) (by omega)
        rw [show 64 * (s / 64) + s % 64 = s by omega] at this
        rw [show decide (pc s < h + 1) = true from decide_eq_true (by omega)]; rfl
      · rfl
    rw [fX8_leastTieSet_35, shl2_all _ (by omega), if_neg (by rw [i_le (by omega) (by omega)]; omega), k_bitCount (by omega), bnd2_some, ltF_s, hlt]
    by_cases q : few ≤ pc s
    · rw [if_pos (by rw [i_le (by omega) (by omega)]; exact q), n2, i1 bst few h6, show decide (pc s < few) = false from decide_eq_false (by omega), Bool.and_false, if_neg (by decide)]
    · rw [if_neg (by rw [i_le (by omega) (by omega)]; exact q), e, bnd2_some, ite_b, show decide (pc s < few) = true from decide_eq_true (by omega), Bool.and_true, n2, i1 bst few h6, i2]
      cases held s span over h <;> rfl
end LT
/-- the shape of the class's object -/
def ClsAt (Z : mZ) : Prop := okO Z 8 8 = true ∧ (Z.2.2.2 8 0 = some 9 ∧ Z.2.2.2 8 1 = some 15 ∧ Z.2.2.2 8 2 = some 21 ∧ Z.2.2.2 8 4 = some 27 ∧ Z.2.2.2 8 5 = some 77 ∧ Z.2.2.2 8 6 = some 82 ∧ Z.2.2.2 8 7 = some 89 ∧ Z.2.2.2 8 8 = some 90 ∧ Z.2.2.2 8 9 = some 93 ∧ Z.2.2.2 8 10 = some 114) ∧
  (PlanAt Z 9 ∧ PlanAt Z 15 ∧ PlanAt Z 21) ∧ (okO Z 27 2 = true ∧ Z.2.2.2 27 2 = some 28 ∧ okO Z 28 24 = true ∧ Z.2.2.1 28 = 8 ∧ ∀ i, i < 8 → Z.2.2.2 28 i = some (29 + 6 * i) ∧ PlanAt Z (29 + 6 * i)) ∧ WaysAt Z 77 ∧ JudgeAt Z 82 ∧ okO Z 89 7 = true ∧
  (okO Z 90 5 = true ∧ Z.2.2.2 90 1 = some 91 ∧ Z.2.2.2 90 2 = some 92 ∧ ArrAt' Z 91 3 ∧ ArrAt' Z 92 3) ∧
  (okO Z 93 1 = true ∧ Z.2.2.2 93 3 = some 94 ∧ Z.2.2.2 93 4 = some 95 ∧ Z.2.2.2 93 5 = some 101 ∧ Z.2.2.2 93 6 = some 106 ∧ Z.2.2.2 93 7 = some 113 ∧ ArrAt' Z 94 900 ∧ PlanAt Z 95 ∧ WaysAt Z 101 ∧ JudgeAt Z 106 ∧ okO Z 113 7 = true) ∧
  (okO Z 114 0 = true ∧ Z.2.2.2 114 2 = some 115 ∧ okO Z 115 21 = true ∧ Z.2.2.1 115 = 80)
section LK
variable {N : Nat} {Z : mZ} {A : Row} {c : Nat}
theorem k_least (hN : 5000 ≤ N) (hC : ClsAt Z) (w : WF A c) {M : mM} (hR : RelP M 9 A) {h : Nat} (hh : h ≤ 12) : fX8_leastTieSet N Z 8 (nI h) M = some (nI (aLt A h), M) := by
  have h1 := w.2.1
  have h2 := w.2.2.1
  have hs : 2 ^ (h + 1) = 2 * 2 ^ h := by rw [Nat.pow_succ]; omega
  have hp : 2 ^ h ≤ 2 ^ 12 := Nat.pow_le_pow_right (by decide) hh
  obtain ⟨o8, ⟨r0, -⟩, ⟨p9, -⟩, -⟩ := hC
  obtain ⟨o1, -, -, -, o2, -, -, -, -, ⟨-, o5, o6⟩, -⟩ := p9
  have e := k_least35 (N := N) (Z := Z) (M := M) (span := A 1) (over := A 2) hN (by omega) (by omega) hh (2 ^ h) 0 N none 0 (h + 1) (by omega) (by omega) (by omega) (Or.inl ⟨rfl, rfl, rfl⟩)
  unfold fX8_leastTieSet
  rw [ck_t o8, r0, bnd1_some, ck_t o1, o2, bnd1_some, k_at0 o5 (by omega) (by omega), bnd2_some, k_at1 o5 (by omega) (by omega), bnd2_some, hR.r0, hR.r1, nI_1]
  exact e
end LK
