/-! ===== LAYER 3: the mathematical row of a plan (the reference's order of places) and what is read off it ===== -/
/-- A 0 bays, 1 span, 2 overhang, 3 capacity, 4 works, 5.. yard, 11.. heights, 21.. decks (7 a bay), 91.. braces, 101.. ladders, 111.. ties -/
abbrev Row : Type := Nat → Nat
def aL (A : Row) (p : Nat) : Nat := if p = 0 then A 0 - 1 else p - 1
def aR (A : Row) (p : Nat) : Nat := if p + 1 = A 0 then 0 else p + 1
def aPH (A : Row) (p : Nat) : Nat := max (A (11 + aL A p)) (A (11 + p))
def rwB (k : Nat) : Nat := if k = 3 then 91 else if k = 4 then 111 else 101
def dmB (b1 b2 b3 b4 b5 b6 : Bool) : Nat := 2 * b1.toNat + 4 * b2.toNat + 8 * b3.toNat + 16 * b4.toNat + 32 * b5.toNat + 64 * b6.toNat
theorem dmB_bits : ∀ b1 b2 b3 b4 b5 b6 : Bool, dmB b1 b2 b3 b4 b5 b6 < 128 ∧ (dmB b1 b2 b3 b4 b5 b6).testBit 0 = false ∧ (dmB b1 b2 b3 b4 b5 b6).testBit 1 = b1 ∧ (dmB b1 b2 b3 b4 b5 b6).testBit 2 = b2 ∧ (dmB b1 b2 b3 b4 b5 b6).testBit 3 = b3 ∧ (dmB b1 b2 b3 b4 b5 b6).testBit 4 = b4 ∧ (dmB b1 b2 b3 b4 b5 b6).testBit 5 = b5 ∧ (dmB b1 b2 b3 b4 b5 b6).testBit 6 = b6 := by decide
/-- the levels with decks of a bay, as a set -/
def dm (A : Row) (p : Nat) : Nat := dmB (decide (0 < A (21 + 7 * p + 1))) (decide (0 < A (21 + 7 * p + 2))) (decide (0 < A (21 + 7 * p + 3))) (decide (0 < A (21 + 7 * p + 4))) (decide (0 < A (21 + 7 * p + 5))) (decide (0 < A (21 + 7 * p + 6)))
theorem dm_lt (A : Row) (p : Nat) : dm A p < 128 := (dmB_bits _ _ _ _ _ _).1
theorem dm_bit (A : Row) (p : Nat) {l : Nat} (h1 : 1 ≤ l) (h6 : l ≤ 6) : (dm A p).testBit l = decide (0 < A (21 + 7 * p + l)) := by
  obtain ⟨-, -, q1, q2, q3, q4, q5, q6⟩ := dmB_bits (decide (0 < A (21 + 7 * p + 1))) (decide (0 < A (21 + 7 * p + 2))) (decide (0 < A (21 + 7 * p + 3))) (decide (0 < A (21 + 7 * p + 4))) (decide (0 < A (21 + 7 * p + 5))) (decide (0 < A (21 + 7 * p + 6)))
  rcases (show l = 1 ∨ l = 2 ∨ l = 3 ∨ l = 4 ∨ l = 5 ∨ l = 6 by omega) with rfl | rfl | rfl | rfl | rfl | rfl
  · exact q1
  · exact q2
  · exact q3
  · exact q4
  · exact q5
  · exact q6
theorem dm_bit0 (A : Row) (p : Nat) : (dm A p).testBit 0 = false := (dmB_bits _ _ _ _ _ _).2.1
/-- the set of levels with pieces of kind 2 to 5 at a place -/
def mkS (A : Row) (k p : Nat) : Nat := if k = 2 then dm A p else A (rwB k + p)
def aHas (A : Row) (k p l : Nat) : Bool := decide (1 ≤ l) && decide (l ≤ 6) && (mkS A k p).testBit l
/-- held: from level l on, with the last tie and n levels to look at -/
def hC (ties span over h : Nat) : Nat → Nat → Nat → Bool
  | 0, last, _ => decide (h - last ≤ over)
  | n + 1, last, l => if ties.testBit l then (if span < l - last then false else hC ties span over h n l (l + 1)) else hC ties span over h n last (l + 1)
def held (ties span over h : Nat) : Bool := hC ties span over h h 0 1
def aHeld (A : Row) (p : Nat) : Bool := held (A (111 + p)) (A 1) (A 2) (aPH A p)
/-- all but what says that the plan is stable; c bounds the works, and through them the yard -/
def WF (A : Row) (c : Nat) : Prop := (4 ≤ A 0 ∧ A 0 ≤ 10) ∧ (1 ≤ A 1 ∧ A 1 ≤ 4) ∧ A 2 ≤ 3 ∧ (100 ≤ A 3 ∧ A 3 ≤ 2000) ∧ (∀ i, i < 10 → A (11 + i) ≤ 6) ∧ (∀ i, A 0 ≤ i → i < 10 → A (11 + i) = 0) ∧
  (∀ i l, i < 10 → l < 7 → A (21 + 7 * i + l) ≤ 4) ∧ (∀ i l, i < 10 → l < 7 → l = 0 ∨ A (11 + i) < l → A (21 + 7 * i + l) = 0) ∧
  (∀ i, i < 10 → A (91 + i) < 128 ∧ ∀ l, (A (91 + i)).testBit l = true → 1 ≤ l ∧ l ≤ A (11 + i)) ∧
  (∀ i, i < 10 → A (101 + i) < 128 ∧ ∀ l, (A (101 + i)).testBit l = true → 1 ≤ l ∧ l ≤ A (11 + i)) ∧
  (∀ i, i < 10 → A (111 + i) < 128 ∧ ∀ l, (A (111 + i)).testBit l = true → 1 ≤ l ∧ l ≤ aPH A i ∧ i < A 0) ∧
  A 4 ≤ c ∧ (∀ k, k < 6 → A (5 + k) ≤ 1000 + 2 * c) ∧ c ≤ 1000000
/-- the class's plan at b holds the row A -/
def RelP (M : mM) (b : Nat) (A : Row) : Prop := M.1 b 0 = nI (A 0) ∧ M.1 b 1 = nI (A 4) ∧ (∀ i, i < 10 → M.1 (b + 1) i = nI (A (11 + i))) ∧ (∀ k p, 2 ≤ k → k ≤ 5 → p < 10 → M.1 (b + 2) (10 * k + p) = nI (mkS A k p)) ∧ (∀ i, i < 20 → M.1 (b + 2) i = nI 0) ∧
  (∀ j, j < 70 → M.1 (b + 3) j = nI (A (21 + j))) ∧ (∀ i, i < 3 → M.1 (b + 4) i = nI (A (1 + i))) ∧ (∀ i, i < 6 → M.1 (b + 5) i = nI (A (5 + i)))
theorem aL_lt {A : Row} {c p : Nat} (w : WF A c) (hp : p < A 0) : aL A p < A 0 := by
  have := w.1; unfold aL; split <;> omega
theorem aR_lt {A : Row} {c p : Nat} (w : WF A c) (hp : p < A 0) : aR A p < A 0 := by
  have := w.1; unfold aR; split <;> omega
theorem aPH_le {A : Row} {c p : Nat} (w : WF A c) (hp : p < A 0) : aPH A p ≤ 6 := by
  have h1 := w.1
  have h2 := aL_lt w hp
  have h3 := w.2.2.2.2.1 (aL A p) (by omega)
  have h4 := w.2.2.2.2.1 p (by omega)
  unfold aPH; omega
theorem mkS_lt {A : Row} {c k p : Nat} (w : WF A c) (hk : 2 ≤ k ∧ k ≤ 5) (hp : p < 10) : mkS A k p < 128 := by
  unfold mkS rwB
  obtain ⟨-, -, -, -, -, -, -, -, h3, h5, h4, -⟩ := w
  split
  · exact dm_lt A p
  · split
    · exact (h3 p hp).1
    · split
      · exact (h4 p hp).1
      · exact (h5 p hp).1
/-! ## the class's plan: what it answers -/
section KP
variable {N : Nat} {Z : mZ} {M : mM} {b : Nat} {A : Row} {c : Nat}
theorem k_hasPlace (hP : PlanAt Z b) (hR : RelP M b A) (w : WF A c) (p : Nat) (hp : p < 2147483648) : fX4_hasPlace N Z b (nI p) M = some (if p < A 0 then 1 else 0, M) := by
  have h1 := w.1
  unfold fX4_hasPlace
  rw [if_neg (nI_pos (by omega)), ck_t hP.1, hR.1]
  by_cases h : p < A 0
  · rw [if_neg (by rw [i_le (by omega) (by omega)]; omega), if_pos h]
  · rw [if_pos (by rw [i_le (by omega) (by omega)]; omega), if_neg h]
theorem k_hasPlaceN (x : Int32) (h : x < 0) : fX4_hasPlace N Z b x M = some (0, M) := by
  unfold fX4_hasPlace
  rw [if_pos h]
theorem k_placeBefore (hP : PlanAt Z b) (hR : RelP M b A) (w : WF A c) {p : Nat} (hp : p < A 0) : fX4_placeBefore N Z b (nI p) M = some (nI (aL A p), M) := by
  have h1 := w.1
  unfold fX4_placeBefore aL
  simp (disch := omega) only [i_0, i_1, i_2, i_3, i_4, i_5, i_6, i_7, i_8, i_9, i_10, i_12, i_13, i_14, i_15, i_17, i_20, i_21, i_31, i_35, i_48, i_50, i_57, i_60, i_70, i_80, i_91, i_100, i_101, i_111, i_120, i_121, i_200, i_300, i_600, i_847, i_900, i_968, i_999, i_2000, i_eq, hP.1, ck_true, hR.1, i_sub]
  split <;> rfl
theorem k_placeAfter (hP : PlanAt Z b) (hR : RelP M b A) (w : WF A c) {p : Nat} (hp : p < A 0) : fX4_placeAfter N Z b (nI p) M = some (nI (aR A p), M) := by
  have h1 := w.1
  unfold fX4_placeAfter aR
  simp (disch := omega) only [i_0, i_1, i_2, i_3, i_4, i_5, i_6, i_7, i_8, i_9, i_10, i_12, i_13, i_14, i_15, i_17, i_20, i_21, i_31, i_35, i_48, i_50, i_57, i_60, i_70, i_80, i_91, i_100, i_101, i_111, i_120, i_121, i_200, i_300, i_600, i_847, i_900, i_968, i_999, i_2000, i_eq, hP.1, ck_true, hR.1, i_sub, nI_add]
  by_cases h : p + 1 = A 0
  · rw [if_pos (by omega), if_pos h]
  · rw [if_neg (by omega), if_neg h]
theorem k_levelsWith (hP : PlanAt Z b) (hR : RelP M b A) {k p : Nat} (hk : 2 ≤ k) (hk5 : k ≤ 5) (hp : p < 10) : fX4_levelsWith N Z b (nI k) (nI p) M = some (nI (mkS A k p), M) := by
  obtain ⟨o1, -, o3, -, -, -, -, ⟨o4, o5, o6⟩, -⟩ := hP
  unfold fX4_levelsWith
  simp (disch := omega) only [i_0, i_1, i_2, i_3, i_4, i_5, i_6, i_7, i_8, i_9, i_10, i_12, i_13, i_14, i_15, i_17, i_20, i_21, i_31, i_35, i_48, i_50, i_57, i_60, i_70, i_80, i_91, i_100, i_101, i_111, i_120, i_121, i_200, i_300, i_600, i_847, i_900, i_968, i_999, i_2000, pk_mul, nI_add, i_lt, i_le, o1, ck_true, o3, bnd1_some, o5, i_ofNat, o6, i_inB, i_cl]
  rw [if_neg (by omega), if_neg (by omega), ck_t (decide_eq_true (by omega)), Nat.mul_comm k 10, hR.2.2.2.1 k p hk hk5 hp]
theorem k_has (hP : PlanAt Z b) (hR : RelP M b A) (w : WF A c) {k p : Nat} (hk : 2 ≤ k) (hk5 : k ≤ 5) (hp : p < 10) (l : Nat) (hl : l < 2147483648) : fX4_has N Z b (nI k) (nI p) (nI l) M = some (if aHas A k p l then 1 else 0, M) := by
  have h2 := mkS_lt w ⟨hk, hk5⟩ hp
  unfold fX4_has aHas
  rw [k_levelsWith hP hR hk hk5 hp, bnd2_some, ck_t hP.1]
  by_cases h1 : l < 1
  · rw [if_pos (by rw [i_1, i_lt (by omega) (by omega)]; omega)]
    simp [show ¬ 1 ≤ l by omega]
  rw [if_neg (by rw [i_1, i_lt (by omega) (by omega)]; omega)]
  by_cases h6 : 6 < l
  · rw [if_pos (by rw [i_6, i_lt (by omega) (by omega)]; omega)]
    simp [show ¬ l ≤ 6 by omega]
  rw [if_neg (by rw [i_6, i_lt (by omega) (by omega)]; omega)]
  simp only [bit_test (show mkS A k p < 2147483648 by omega) (show l < 32 by omega)]
  cases hb : (mkS A k p).testBit l <;> simp [show 1 ≤ l by omega, show l ≤ 6 by omega]
theorem k_postHeight (hP : PlanAt Z b) (hR : RelP M b A) (w : WF A c) {p : Nat} (hp : p < A 0) : fX4_postHeight N Z b (nI p) M = some (nI (aPH A p), M) := by
  have h1 := w.1
  have h2 := aL_lt w hp
  have h3 := w.2.2.2.2.1 (aL A p) (by omega)
  have h4 := w.2.2.2.2.1 p (by omega)
  have hb := k_placeBefore (N := N) hP hR w hp
  obtain ⟨o1, o2, -, -, -, -, ⟨-, o5, o6⟩, -⟩ := hP
  unfold fX4_postHeight aPH
  rw [ck_t o1, o2, bnd1_some, hb, bnd2_some, k_at o5 (by omega) (by omega), bnd2_some, k_at o5 (by omega) (by omega), bnd2_some, hR.2.2.1 _ (by omega), hR.2.2.1 _ (by omega)]
  simp only [i_lt (show A (11 + aL A p) < 2147483648 by omega) (show A (11 + p) < 2147483648 by omega)]
  by_cases h : A (11 + aL A p) < A (11 + p)
  · rw [if_pos h, Nat.max_eq_right (by omega)]
  · rw [if_neg h, Nat.max_eq_left (by omega)]
/-- the class's isHeld, on a height and a set -/
theorem k_isHeld6 {ties span over h : Nat} (ht : ties < 8192) (hs : span < 100) (ho : over < 100) (hh : h ≤ 13) : ∀ (j fu last l : Nat), l + j = h + 1 → last < l → j < fu → fX8_isHeld_6 N Z fu (nI ties) (nI h) (nI span) (nI over) (nI last) (nI l) M = some (if hC ties span over h j last l then 1 else 0, M) := by
  intro j
  induction j with
  | zero =>
    intro fu last l h1 h2 h3
    obtain ⟨fu, rfl⟩ : ∃ q, fu = q + 1 := ⟨fu - 1, by omega⟩
    rw [fX8_isHeld_6]
    simp (disch := omega) only [i_lt, i_sub, hC]
    rw [if_pos (by omega)]
    by_cases hq : h - last ≤ over
    · rw [if_neg (by omega)]; simp [hq]
    · rw [if_pos (by omega)]; simp [hq]
  | succ j ih =>
    intro fu last l h1 h2 h3
    obtain ⟨fu, rfl⟩ : ∃ q, fu = q + 1 := ⟨fu - 1, by omega⟩
    rw [fX8_isHeld_6]
    simp (disch := omega) only [i_lt, i_sub, i_le, bit_test, nI_1]
    rw [if_neg (by omega)]
    unfold hC
    cases hb : ties.testBit l with
    | false => simp only [if_true, Bool.false_eq_true, if_false]; exact ih fu last (l + 1) (by omega) (by omega) (by omega)
    | true =>
      simp only [if_true, Bool.true_eq_false, if_false]
      by_cases hq : span < l - last
      · rw [if_neg (by omega), if_pos hq]; rfl
      · rw [if_pos (by omega), if_neg hq]; exact ih fu l (l + 1) (by omega) (by omega) (by omega)
theorem k_isHeld {ties span over h : Nat} (hN : 5000 ≤ N) (ht : ties < 8192) (hs : span < 100) (ho : over < 100) (hh : h ≤ 13) : fX8_isHeld N Z (nI ties) (nI h) (nI span) (nI over) M = some (if held ties span over h then 1 else 0, M) := by
  unfold fX8_isHeld held
  exact k_isHeld6 ht hs ho hh h N 0 1 (by omega) (by omega) (by omega)
theorem isB_ite (q : Bool) : isB (if q then (1 : Int32) else 0) = true := by cases q <;> rfl
theorem k_at0 {r : Nat} (ho : okI Z r = true) (hi : 0 < Z.2.2.1 r) (hn : Z.2.2.1 r < 2147483648) : fX8_at N Z r 0 M = some (M.1 r 0, M) := k_at (i := 0) ho hi hn
theorem k_at1 {r : Nat} (ho : okI Z r = true) (hi : 1 < Z.2.2.1 r) (hn : Z.2.2.1 r < 2147483648) : fX8_at N Z r 1 M = some (M.1 r 1, M) := k_at (i := 1) ho hi hn
theorem k_at2 {r : Nat} (ho : okI Z r = true) (hi : 2 < Z.2.2.1 r) (hn : Z.2.2.1 r < 2147483648) : fX8_at N Z r 2 M = some (M.1 r 2, M) := k_at (i := 2) ho hi hn
theorem RelP.r0 (hR : RelP M b A) : M.1 (b + 4) 0 = nI (A 1) := hR.2.2.2.2.2.2.1 0 (by omega)
theorem RelP.r1 (hR : RelP M b A) : M.1 (b + 4) 1 = nI (A 2) := hR.2.2.2.2.2.2.1 1 (by omega)
theorem RelP.r2 (hR : RelP M b A) : M.1 (b + 4) 2 = nI (A 3) := hR.2.2.2.2.2.2.1 2 (by omega)
theorem k_isHeldBy (hN : 5000 ≤ N) (hP : PlanAt Z b) (hR : RelP M b A) (w : WF A c) {ties h : Nat} (ht : ties < 8192) (hh : h ≤ 13) : fX4_isHeldBy N Z b (nI ties) (nI h) M = some (if held ties (A 1) (A 2) h then 1 else 0, M) := by
  obtain ⟨o1, -, -, -, o2, -, -, -, -, ⟨-, o5, o6⟩, -⟩ := hP
  have h2 := w.2.1
  have h3 := w.2.2.1
  unfold fX4_isHeldBy
  rw [ck_t o1, o2, bnd1_some, k_at0 o5 (by omega) (by omega), bnd2_some, k_at1 o5 (by omega) (by omega), bnd2_some, hR.r0, hR.r1, k_isHeld hN ht (by omega) (by omega) hh, bnd2_some, ck_t (isB_ite _)]
end KP
