/-! ===== LAYER 3: what the reference reads off its row ===== -/
theorem i_11 : (11 : Int32) = nI 11 := rfl
theorem cl_0 : (0 : Int32).toNatClampNeg = 0 := by decide
theorem cl_1 : (1 : Int32).toNatClampNeg = 1 := by decide
theorem cl_2 : (2 : Int32).toNatClampNeg = 2 := by decide
theorem cl_3 : (3 : Int32).toNatClampNeg = 3 := by decide
theorem cl_4 : (4 : Int32).toNatClampNeg = 4 := by decide
theorem cl_5 : (5 : Int32).toNatClampNeg = 5 := by decide
theorem cl_6 : (6 : Int32).toNatClampNeg = 6 := by decide
theorem i32_cases (x : Int32) : x < 0 ∨ ∃ l, l < 2147483648 ∧ x = nI l := by
  by_cases h : x < 0
  · exact Or.inl h
  · right
    have h1 := Int32.toInt_lt x
    have h2 : 0 ≤ x.toInt := by
      rw [Int32.lt_iff_toInt_lt] at h
      have : (0 : Int32).toInt = 0 := rfl
      omega
    refine ⟨x.toInt.toNat, by omega, ?_⟩
    exact Int32.toInt_inj.mp (by rw [nI_toInt (by omega)]; omega)
theorem left_all : ∀ n, n < 11 → ∀ p, p < n → (nI p + nI n - 1) - (nI p + nI n - 1) / nI n * nI n = nI (if p = 0 then n - 1 else p - 1) := by decide +kernel
theorem right_all : ∀ n, n < 11 → ∀ p, p < n → (nI p + 1) - (nI p + 1) / nI n * nI n = nI (if p + 1 = n then 0 else p + 1) := by decide +kernel
theorem bit_test1 {m l : Nat} (hm : m < 2147483648) (hl : l < 32) : (((nI m >>> (nI l &&& 31)) &&& (1 : Int32)) = 1) = (m.testBit l = true) := by
  have h1 : m / 2 ^ l < 2147483648 := Nat.lt_of_le_of_lt (Nat.div_le_self _ _) hm
  rw [bit_shr hm hl, bit_one h1, show (1 : Int32) = nI 1 from rfl, i_eq (by omega) (by omega)]
  rw [Nat.testBit_eq_decide_div_mod_eq]
  exact propext (decide_eq_true_iff).symm
/-- the reference's object and its rows -/
def ModAt (Z : mZ) : Prop := okO Z 116 9 = true ∧ (Z.2.2.2 116 0 = some 117 ∧ Z.2.2.2 116 1 = some 118 ∧ Z.2.2.2 116 2 = some 119 ∧ Z.2.2.2 116 3 = some 120 ∧ Z.2.2.2 116 5 = some 121 ∧ Z.2.2.2 116 7 = some 122 ∧ Z.2.2.2 116 11 = some 123 ∧ Z.2.2.2 116 12 = some 124 ∧
    Z.2.2.2 116 15 = some 125 ∧ Z.2.2.2 116 17 = some 126 ∧ Z.2.2.2 116 20 = some 127 ∧ Z.2.2.2 116 22 = some 128) ∧
  ArrAt' Z 117 121 ∧ ArrAt' Z 118 121 ∧ ArrAt' Z 119 121 ∧ ArrAt' Z 120 121 ∧ ArrAt' Z 121 968 ∧ ArrAt' Z 122 6 ∧ ArrAt' Z 123 70 ∧ ArrAt' Z 124 70 ∧ ArrAt' Z 125 900 ∧ ArrAt' Z 126 80 ∧ ArrAt' Z 127 200 ∧ ArrAt' Z 128 121
/-- an array of 121 numbers holds the row A -/
def RowAt (M : mM) (r : Nat) (A : Row) : Prop := ∀ i, i < 121 → M.1 r i = nI (A i)
def dk (A : Row) (b l : Nat) : Nat := if 1 ≤ l ∧ l ≤ 6 then A (21 + 7 * b + l) else 0
theorem hC_tail {ties span over h : Nat} : ∀ (k last l : Nat), (∀ i, l ≤ i → ties.testBit i = false) → hC ties span over h k last l = hC ties span over h 0 last l
  | 0, _, _, _ => rfl
  | k + 1, last, l, hi => by
    rw [show hC ties span over h (k + 1) last l = if ties.testBit l then (if span < l - last then false else hC ties span over h k l (l + 1)) else hC ties span over h k last (l + 1) from rfl, hi l (by omega)]
    rw [if_neg (by decide)]
    exact hC_tail k last (l + 1) (fun i hl => hi i (by omega))
theorem hC_more {ties span over h : Nat} (k : Nat) : ∀ (j last l : Nat), (∀ i, l + j ≤ i → ties.testBit i = false) → hC ties span over h (j + k) last l = hC ties span over h j last l
  | 0, last, l, hi => by rw [Nat.zero_add]; exact hC_tail k last l (fun i hl => hi i (by omega))
  | j + 1, last, l, hi => by
    rw [show j + 1 + k = (j + k) + 1 by omega]
    simp only [hC]
    rw [hC_more k j l (l + 1) (fun i hl => hi i (by omega)), hC_more k j last (l + 1) (fun i hl => hi i (by omega))]
theorem held12 {ties span over h : Nat} (hh : h ≤ 12) (hb : ∀ i, h < i → ties.testBit i = false) : hC ties span over h 12 0 1 = held ties span over h := by
  have h1 := hC_more (ties := ties) (span := span) (over := over) (h := h) (12 - h) h 0 1 (fun i hi => hb i (by omega))
  rw [show h + (12 - h) = 12 by omega] at h1
  exact h1
/-- the levels below the highest one, all braced -/
def brF (br : Nat) : Nat → Nat → Bool
  | 0, _ => true
  | j + 1, l => br.testBit l && brF br j (l + 1)
theorem bset_all : ∀ h, h < 7 → ∀ br, br < 128 → decide (bset h br ≠ 2 ^ (h + 1) - 2) = !brF br (h - 1) 1 := by decide +kernel
def aUnbr' (A : Row) : Option Nat := ffr (fun b => !brF (aBr A b) (A (11 + b) - 1) 1) (A 0) 0
section MR
variable {N : Nat} {Z : mZ} {M : mM} {A : Row} {c : Nat}
theorem aBr_lt (w : WF A c) {b : Nat} (hb : b < A 0) : aBr A b < 128 := by
  have h1 := w.1
  have h2 := aL_lt w hb
  have h3 := aR_lt w hb
  have h4 : ∀ q, q < 10 → A (91 + q) < 128 := fun q hq => (w.2.2.2.2.2.2.2.2.1 q hq).1
  exact or_lt128 _ (or_lt128 _ (h4 _ (by omega)) _ (h4 _ (by omega))) _ (h4 _ (by omega))
theorem aUnbr_eq (w : WF A c) : aUnbr A = aUnbr' A := by
  unfold aUnbr aUnbr'
  refine ffr_congr _ _ (fun b _ hb => ?_)
  have h1 := w.1
  exact bset_all _ (by have := w.2.2.2.2.1 b (by omega); omega) _ (aBr_lt w (by omega))
theorem m_high (hM : ModAt Z) (hR : RowAt M 117 A) {p : Nat} (hp : p < 10) : fX9_high N Z 116 (nI p) M = some (nI (A (11 + p)), M) := by
  obtain ⟨o1, ⟨o2, -⟩, ⟨g4, g5, g6⟩, -⟩ := hM
  unfold fX9_high
  rw [ck_t o1, o2, bnd1_some, ck_t g5, g6, i_11, nI_add, ck_t (by rw [i_inB (by omega)]; exact decide_eq_true (by omega)), i_cl (by omega), hR _ (by omega)]
theorem m_left (hM : ModAt Z) (hR : RowAt M 117 A) (w : WF A c) {p : Nat} (hp : p < A 0) : fX9_left N Z 116 (nI p) M = some (nI (aL A p), M) := by
  have h1 := w.1
  obtain ⟨o1, ⟨o2, -⟩, ⟨g4, g5, g6⟩, -⟩ := hM
  unfold fX9_left
  rw [ck_t o1, o2, bnd1_some, ck_t g5, g6, ck_t (by decide), cl_0, hR _ (by omega), ck_t (decide_eq_true (by rw [i_0, i_eq (by omega) (by omega)]; omega)), left_all _ (by omega) _ hp]
  rfl
theorem m_right (hM : ModAt Z) (hR : RowAt M 117 A) (w : WF A c) {p : Nat} (hp : p < A 0) : fX9_right N Z 116 (nI p) M = some (nI (aR A p), M) := by
  have h1 := w.1
  obtain ⟨o1, ⟨o2, -⟩, ⟨g4, g5, g6⟩, -⟩ := hM
  unfold fX9_right
  rw [ck_t o1, o2, bnd1_some, ck_t g5, g6, ck_t (by decide), cl_0, hR _ (by omega), ck_t (decide_eq_true (by rw [i_0, i_eq (by omega) (by omega)]; omega)), right_all _ (by omega) _ hp]
  rfl
theorem m_greater {a b : Nat} (ha : a < 2147483648) (hb : b < 2147483648) : fX9_greater N Z (nI a) (nI b) M = some (nI (max a b), M) := by
  unfold fX9_greater
  by_cases h : a ≤ b
  · rw [if_pos (by rw [i_le ha hb]; exact h), Nat.max_eq_right h]
  · rw [if_neg (by rw [i_le ha hb]; exact h), Nat.max_eq_left (by omega)]
theorem m_postHigh (hM : ModAt Z) (hR : RowAt M 117 A) (w : WF A c) {p : Nat} (hp : p < A 0) : fX9_postHigh N Z 116 (nI p) M = some (nI (aPH A p), M) := by
  have h1 := w.1
  have h2 := aL_lt w hp
  have h3 := w.2.2.2.2.1 (aL A p) (by omega)
  have h4 := w.2.2.2.2.1 p (by omega)
  unfold fX9_postHigh aPH
  rw [ck_t hM.1, m_high hM hR (by omega), bnd2_some, m_left hM hR w hp, bnd2_some, m_high hM hR (by omega), bnd2_some, m_greater (by omega) (by omega), bnd2_some, Nat.max_comm]
theorem m_in {a l h : Nat} (ha : a < 2147483648) (hl : l < 2147483648) (hh : h < 2147483648) : fX9_in N Z (nI a) (nI l) (nI h) M = some (if l ≤ a ∧ a ≤ h then 1 else 0, M) := by
  unfold fX9_in
  by_cases h1 : a < l
  · rw [if_pos (by rw [i_lt ha hl]; exact h1), if_neg (by omega)]
  · rw [if_neg (by rw [i_lt ha hl]; exact h1)]
    by_cases h2 : h < a
    · rw [if_pos (by rw [i_lt hh ha]; exact h2), if_neg (by omega)]
    · rw [if_neg (by rw [i_lt hh ha]; exact h2), if_pos (by omega)]
theorem m_in16 {a : Nat} (ha : a < 2147483648) : fX9_in N Z (nI a) (1 : Int32) (6 : Int32) M = some (if 1 ≤ a ∧ a ≤ 6 then 1 else 0, M) := m_in ha (l := 1) (h := 6) (by omega) (by omega)
theorem m_deckAt (hM : ModAt Z) (hR : RowAt M 117 A) {b l : Nat} (hb : b < 10) (hl : l < 2147483648) : fX9_deckAt N Z 116 (nI b) (nI l) M = some (nI (dk A b l), M) := by
  obtain ⟨o1, ⟨o2, -⟩, ⟨g4, g5, g6⟩, -⟩ := hM
  unfold fX9_deckAt dk
  rw [m_in16 hl, bnd2_some]
  by_cases h : 1 ≤ l ∧ l ≤ 6
  · rw [if_pos h, if_neg (by decide), if_pos h, ck_t o1, o2, bnd1_some, ck_t g5, g6, i_21, i_7, pk_mul, nI_add, nI_add, ck_t (by rw [i_inB (by omega)]; exact decide_eq_true (by omega)), i_cl (by omega), hR _ (by omega)]
  · rw [if_neg h, if_pos rfl, if_neg h]; rfl
theorem mkS_row {k p : Nat} (h3 : 3 ≤ k) : mkS A k p = A (rwB k + p) := by unfold mkS; rw [if_neg (by omega)]
theorem m_has (hM : ModAt Z) (hR : RowAt M 117 A) (w : WF A c) {k p l : Nat} (h3 : 3 ≤ k) (h5 : k ≤ 5) (hp : p < 10) (hl : l < 2147483648) : fX9_has N Z 116 (nI (rwB k)) (nI p) (nI l) M = some (if aHas A k p l then 1 else 0, M) := by
  have hr : rwB k ≤ 111 := by unfold rwB; split <;> (try split) <;> omega
  have h2 := mkS_lt w (k := k) (p := p) (by omega) hp
  rw [mkS_row h3] at h2
  obtain ⟨o1, ⟨o2, -⟩, ⟨g4, g5, g6⟩, -⟩ := hM
  unfold fX9_has aHas
  rw [m_in16 hl, bnd2_some, mkS_row h3]
  by_cases h : 1 ≤ l ∧ l ≤ 6
  · rw [if_pos h, if_neg (by decide), ck_t o1, o2, bnd1_some, ck_t g5, g6, nI_add, ck_t (by rw [i_inB (by omega)]; exact decide_eq_true (by omega)), i_cl (by omega), hR _ (by omega)]
    cases hb : (A (rwB k + p)).testBit l
    · rw [if_neg (by rw [bit_test1 (by omega) (by omega), hb]; decide)]; simp
    · rw [if_pos (by rw [bit_test1 (by omega) (by omega), hb])]; simp [h.1, h.2]
  · rw [if_neg h, if_pos rfl]
    rw [if_neg (by simp; omega)]
theorem m_has91 (hM : ModAt Z) (hR : RowAt M 117 A) (w : WF A c) {p l : Nat} (hp : p < 10) (hl : l < 2147483648) : fX9_has N Z 116 (91 : Int32) (nI p) (nI l) M = some (if aHas A 3 p l then 1 else 0, M) := m_has (k := 3) hM hR w (by omega) (by omega) hp hl
theorem m_has111 (hM : ModAt Z) (hR : RowAt M 117 A) (w : WF A c) {p l : Nat} (hp : p < 10) (hl : l < 2147483648) : fX9_has N Z 116 (111 : Int32) (nI p) (nI l) M = some (if aHas A 4 p l then 1 else 0, M) := m_has (k := 4) hM hR w (by omega) (by omega) hp hl
theorem m_has101 (hM : ModAt Z) (hR : RowAt M 117 A) (w : WF A c) {p l : Nat} (hp : p < 10) (hl : l < 2147483648) : fX9_has N Z 116 (101 : Int32) (nI p) (nI l) M = some (if aHas A 5 p l then 1 else 0, M) := m_has (k := 5) hM hR w (by omega) (by omega) hp hl
theorem m_isHeldBy6 {ties span over h : Nat} (ht : ties < 8192) (hs : span < 100) (ho : over < 100) (hh : h ≤ 13) (hb : ∀ i, h < i → ties.testBit i = false) : ∀ (j fu last l : Nat), l + j = 13 → last < l → last ≤ h → j < fu → fX9_isHeldBy_6 N Z fu (nI h) (nI ties) (nI span) (nI over) (nI last) (nI l) M = some (if hC ties span over h j last l then 1 else 0, M) := by
  intro j
  induction j with
  | zero =>
    intro fu last l h1 h2 h4 h3
    obtain ⟨fu, rfl⟩ : ∃ q, fu = q + 1 := ⟨fu - 1, by omega⟩
    rw [fX9_isHeldBy_6, if_pos (by rw [i_12, i_lt (by omega) (by omega)]; omega), i_sub h4]
    unfold hC
    by_cases hq : h - last ≤ over
    · rw [if_neg (by rw [i_lt (by omega) (by omega)]; omega)]; simp [hq]
    · rw [if_pos (by rw [i_lt (by omega) (by omega)]; omega)]; simp [hq]
  | succ j ih =>
    intro fu last l h1 h2 h4 h3
    obtain ⟨fu, rfl⟩ : ∃ q, fu = q + 1 := ⟨fu - 1, by omega⟩
    rw [fX9_isHeldBy_6, if_neg (by rw [i_12, i_lt (by omega) (by omega)]; omega), i_sub (by omega), nI_1]
    unfold hC
    cases hbt : ties.testBit l with
    | false => rw [if_neg (by rw [bit_test1 (by omega) (by omega), hbt]; decide)]; simp only [Bool.false_eq_true, if_false]; exact ih fu last (l + 1) (by omega) (by omega) h4 (by omega)
    | true =>
      have hlh : l ≤ h := by
        rcases Nat.lt_or_ge h l with q | q
        · rw [hb l q] at hbt; cases hbt
        · exact q
      rw [if_pos (by rw [bit_test1 (by omega) (by omega), hbt])]; simp only [if_true]
      by_cases hq : span < l - last
      · rw [if_neg (by rw [i_le (by omega) (by omega)]; omega), if_pos hq]; rfl
      · rw [if_pos (by rw [i_le (by omega) (by omega)]; omega), if_neg hq]; exact ih fu l (l + 1) (by omega) (by omega) hlh (by omega)
theorem m_isHeldBy {ties span over h : Nat} (hN : 5000 ≤ N) (ht : ties < 8192) (hs : span < 100) (ho : over < 100) (hh : h ≤ 12) (hb : ∀ i, h < i → ties.testBit i = false) : fX9_isHeldBy N Z (nI h) (nI ties) (nI span) (nI over) M = some (if held ties span over h then 1 else 0, M) := by
  unfold fX9_isHeldBy
  rw [← held12 hh hb]
  exact m_isHeldBy6 ht hs ho (by omega) hb 12 N 0 1 (by omega) (by omega) (by omega) (by omega)
theorem m_isHeld (hN : 5000 ≤ N) (hM : ModAt Z) (hR : RowAt M 117 A) (w : WF A c) {p : Nat} (hp : p < A 0) : fX9_isHeld N Z 116 (nI p) M = some (if aHeld A p then 1 else 0, M) := by
  have h1 := w.1
  have e1 := m_postHigh (N := N) hM hR w hp
  have hh := aPH_le w hp
  have hs := w.2.1
  have ho := w.2.2.1
  have ht := w.2.2.2.2.2.2.2.2.2.2.1 p (by omega)
  have hb : ∀ i, aPH A p < i → (A (111 + p)).testBit i = false := fun i hi => by
    cases q : (A (111 + p)).testBit i with
    | false => rfl
    | true => have := (ht.2 i q).2.1; omega
  have e2 := m_isHeldBy (N := N) (Z := Z) (M := M) (ties := A (111 + p)) (span := A 1) (over := A 2) (h := aPH A p) hN (by omega) (by omega) (by omega) (by omega) hb
  obtain ⟨o1, ⟨o2, -⟩, ⟨g4, g5, g6⟩, -⟩ := hM
  unfold fX9_isHeld aHeld
  rw [ck_t o1, e1, bnd2_some, o2, bnd1_some, ck_t g5, g6, i_111, nI_add, ck_t (by rw [i_inB (by omega)]; exact decide_eq_true (by omega)), ck_t (by decide), ck_t (by decide), i_cl (by omega), cl_1, cl_2, hR _ (by omega), hR _ (by omega), hR _ (by omega), e2, bnd2_some, ck_t (isB_ite _)]
theorem m_isBraced (hM : ModAt Z) (hR : RowAt M 117 A) (w : WF A c) {b l : Nat} (hb : b < A 0) (h1 : 1 ≤ l) (h6 : l ≤ 6) : fX9_isBraced N Z 116 (nI b) (nI l) M = some (if (aBr A b).testBit l then 1 else 0, M) := by
  have h3 := w.1
  have h4 := aL_lt w hb
  have h5 := aR_lt w hb
  have q : ∀ p, aHas A 3 p l = (A (91 + p)).testBit l := fun p => by
    unfold aHas; rw [mkS_row (by omega)]; simp [h1, h6, rwB]
  unfold fX9_isBraced aBr
  rw [ck_t hM.1, m_has91 hM hR w (by omega) (by omega), bnd2_some, m_left hM hR w hb, bnd2_some, m_has91 hM hR w (by omega) (by omega), bnd2_some, m_right hM hR w hb, bnd2_some, m_has91 hM hR w (by omega) (by omega), bnd2_some, q, q, q, Nat.testBit_or, Nat.testBit_or]
  cases (A (91 + b)).testBit l <;> cases (A (91 + aL A b)).testBit l <;> cases (A (91 + aR A b)).testBit l <;> simp
theorem m_classes4 (hM : ModAt Z) (hR : RowAt M 117 A) {b : Nat} (hb : b < 10) : ∀ (j i fu : Nat), i + j = 6 → j < fu → fX9_classes_4 N Z fu 116 (nI b) (nI (sm (fun l => A (21 + 7 * b + (l + 1))) i)) (nI (i + 1)) M = some (nI (cls A b), M) := by
  intro j
  induction j with
  | zero =>
    intro i fu h2 h3
    obtain ⟨fu, rfl⟩ : ∃ q, fu = q + 1 := ⟨fu - 1, by omega⟩
    have h4 : i = 6 := by omega
    subst h4
    rw [fX9_classes_4, if_pos (by rw [i_6, i_lt (by omega) (by omega)]; omega)]
    rfl
  | succ j ih =>
    intro i fu h2 h3
    obtain ⟨fu, rfl⟩ : ∃ q, fu = q + 1 := ⟨fu - 1, by omega⟩
    have hi := ih (i + 1) fu (by omega) (by omega)
    rw [sm_succ _ i] at hi
    rw [fX9_classes_4, if_neg (by rw [i_6, i_lt (by omega) (by omega)]; omega), ck_t hM.1, m_deckAt hM hR hb (by omega), bnd2_some, nI_add, nI_1]
    unfold dk
    rw [if_pos (by omega)]
    exact hi
theorem m_classes (hN : 5000 ≤ N) (hM : ModAt Z) (hR : RowAt M 117 A) {b : Nat} (hb : b < 10) : fX9_classes N Z 116 (nI b) M = some (nI (cls A b), M) := by
  unfold fX9_classes
  exact m_classes4 hM hR hb 6 0 N (by omega) (by omega)
theorem m_loadOf (hN : 5000 ≤ N) (hM : ModAt Z) (hR : RowAt M 117 A) (w : WF A c) {p : Nat} (hp : p < A 0) : fX9_loadOf N Z 116 (nI p) M = some (nI (aLoad A p), M) := by
  have h1 := w.1
  have h2 := aL_lt w hp
  unfold fX9_loadOf aLoad
  rw [ck_t hM.1, m_postHigh hM hR w hp, bnd2_some, m_classes hN hM hR (by omega), bnd2_some, m_left hM hR w hp, bnd2_some, m_classes hN hM hR (by omega), bnd2_some, i_20, i_50, nI_add, pk_mul, pk_mul, nI_add]
def wrM (M : mM) (p : Nat) : mM := sI M 116 10 (nI p)
def wrR (k : Int32) (M : mM) (x : Option Nat) (f : Option (Int32 × mM)) : Option (Int32 × mM) := match x with
  | none => f
  | some p => some (k, wrM M p)
theorem m_wrong88 (hN : 5000 ≤ N) (hM : ModAt Z) (hR : RowAt M 117 A) (w : WF A c) : ∀ (j i fu : Nat), i + j = A 0 → j < fu → fX9_wrong_88 N Z fu 116 (nI i) M = wrR 8 M (ffr (fun p => decide (A 3 < aLoad A p)) j i) (some (0, M)) := by
  have h1 := w.1
  have h9 := w.2.2.2.1
  have hl := fun p hp => m_loadOf (N := N) (p := p) hN hM hR w hp
  obtain ⟨o1, ⟨o2, -⟩, ⟨g4, g5, g6⟩, -⟩ := hM
  intro j
  induction j with
  | zero =>
    intro i fu h2 h3
    obtain ⟨fu, rfl⟩ : ∃ q, fu = q + 1 := ⟨fu - 1, by omega⟩
    rw [fX9_wrong_88, ck_t o1, o2, bnd1_some, ck_t g5, g6, ck_t (by decide), cl_0, hR _ (by omega), if_pos (by rw [i_le (by omega) (by omega)]; omega)]
    rfl
  | succ j ih =>
    intro i fu h2 h3
    obtain ⟨fu, rfl⟩ : ∃ q, fu = q + 1 := ⟨fu - 1, by omega⟩
    have hi := ih (i + 1) fu (by omega) (by omega)
    have h4 := aLoad_le w (p := i) (by omega)
    rw [fX9_wrong_88, ck_t o1, o2, bnd1_some, ck_t g5, g6, ck_t (by decide), cl_0, hR 0 (by omega), if_neg (by rw [i_le (by omega) (by omega)]; omega), hl i (by omega), bnd2_some, ck_t (by decide), cl_3, hR 3 (by omega), nI_1]
    unfold ffr
    by_cases q : A 3 < aLoad A i
    · rw [if_neg (by rw [i_le (by omega) (by omega)]; omega), if_pos (by simp [q])]; rfl
    · rw [if_pos (by rw [i_le (by omega) (by omega)]; omega), if_neg (by simp [q])]; exact hi
theorem m_wrong48 (hN : 5000 ≤ N) (hM : ModAt Z) (hR : RowAt M 117 A) (w : WF A c) {b : Nat} (hb : b < A 0) (K : Nat → Int32 → mM → Option (Int32 × mM)) : ∀ (j l fu : Nat), l + j = A (11 + b) ∨ (j = 0 ∧ A (11 + b) ≤ l ∧ l ≤ 7) → 1 ≤ l → j < fu → fX9_wrong_48 N Z K fu 116 (nI b) (nI l) M = if brF (aBr A b) j l then K 116 (nI (b + 1)) M else some (7, wrM M b) := by
  have h1 := w.1
  have hh := w.2.2.2.2.1 b (by omega)
  have e1 := m_high (N := N) hM hR (p := b) (by omega)
  have e2 := fun l h1 h6 => m_isBraced (N := N) hM hR w (l := l) hb h1 h6
  obtain ⟨o1, -⟩ := hM
  intro j
  induction j with
  | zero =>
    intro l fu h2 h0 h3
    obtain ⟨fu, rfl⟩ : ∃ q, fu = q + 1 := ⟨fu - 1, by omega⟩
    rw [fX9_wrong_48, ck_t o1, e1, bnd2_some, if_pos (by rw [i_le (by omega) (by omega)]; omega), nI_1]
    rfl
  | succ j ih =>
    intro l fu h2 h0 h3
    obtain ⟨fu, rfl⟩ : ∃ q, fu = q + 1 := ⟨fu - 1, by omega⟩
    have hi := ih (l + 1) fu (by omega) (by omega) (by omega)
    rw [fX9_wrong_48, ck_t o1, e1, bnd2_some, if_neg (by rw [i_le (by omega) (by omega)]; omega), e2 l h0 (by omega), bnd2_some, ite_b, nI_1]
    unfold brF
    cases (aBr A b).testBit l
    · rfl
    · simpa using hi
theorem m_wrong36 (hN : 5000 ≤ N) (hM : ModAt Z) (hR : RowAt M 117 A) (w : WF A c) : ∀ (j i fu : Nat), i + j = A 0 → j < fu → fX9_wrong_36 N Z fu 116 (nI i) M = wrR 7 M (ffr (fun b => !brF (aBr A b) (A (11 + b) - 1) 1) j i) (wrR 8 M (aOver A) (some (0, M))) := by
  have h1 := w.1
  have e1 := m_wrong88 (N := N) hN hM hR w (A 0) 0 N (by omega) (by omega)
  have e2 := fun b hb K => m_wrong48 (N := N) (b := b) hN hM hR w hb K
  obtain ⟨o1, ⟨o2, -⟩, ⟨g4, g5, g6⟩, -⟩ := hM
  intro j
  induction j with
  | zero =>
    intro i fu h2 h3
    obtain ⟨fu, rfl⟩ : ∃ q, fu = q + 1 := ⟨fu - 1, by omega⟩
    rw [fX9_wrong_36, ck_t o1, o2, bnd1_some, ck_t g5, g6, ck_t (by decide), cl_0, hR _ (by omega), if_pos (by rw [i_le (by omega) (by omega)]; omega)]
    exact e1
  | succ j ih =>
    intro i fu h2 h3
    obtain ⟨fu, rfl⟩ : ∃ q, fu = q + 1 := ⟨fu - 1, by omega⟩
    have hi := ih (i + 1) fu (by omega) (by omega)
    have hh := w.2.2.2.2.1 i (by omega)
    rw [fX9_wrong_36, ck_t o1, o2, bnd1_some, ck_t g5, g6, ck_t (by decide), cl_0, hR _ (by omega), if_neg (by rw [i_le (by omega) (by omega)]; omega)]
    refine (e2 i (by omega) _ (A (11 + i) - 1) 1 N (by omega) (by omega) (by omega)).trans ?_
    unfold ffr
    cases brF (aBr A i) (A (11 + i) - 1) 1
    · rfl
    · simpa using hi
theorem m_wrong2 (hN : 5000 ≤ N) (hM : ModAt Z) (hR : RowAt M 117 A) (w : WF A c) : ∀ (j i fu : Nat), i + j = A 0 → j < fu → fX9_wrong_2 N Z fu 116 (nI i) M = wrR 6 M (ffr (fun p => !aHeld A p) j i) (wrR 7 M (aUnbr A) (wrR 8 M (aOver A) (some (0, M)))) := by
  have h1 := w.1
  have e1 := m_wrong36 (N := N) hN hM hR w (A 0) 0 N (by omega) (by omega)
  rw [show ffr (fun b => !brF (aBr A b) (A (11 + b) - 1) 1) (A 0) 0 = aUnbr' A from rfl, ← aUnbr_eq w] at e1
  have e2 := fun p hp => m_isHeld (N := N) (p := p) hN hM hR w hp
  obtain ⟨o1, ⟨o2, -⟩, ⟨g4, g5, g6⟩, -⟩ := hM
  intro j
  induction j with
  | zero =>
    intro i fu h2 h3
    obtain ⟨fu, rfl⟩ : ∃ q, fu = q + 1 := ⟨fu - 1, by omega⟩
    rw [fX9_wrong_2, ck_t o1, o2, bnd1_some, ck_t g5, g6, ck_t (by decide), cl_0, hR _ (by omega), if_pos (by rw [i_le (by omega) (by omega)]; omega)]
    exact e1
  | succ j ih =>
    intro i fu h2 h3
    obtain ⟨fu, rfl⟩ : ∃ q, fu = q + 1 := ⟨fu - 1, by omega⟩
    have hi := ih (i + 1) fu (by omega) (by omega)
    rw [fX9_wrong_2, ck_t o1, o2, bnd1_some, ck_t g5, g6, ck_t (by decide), cl_0, hR _ (by omega), if_neg (by rw [i_le (by omega) (by omega)]; omega), e2 i (by omega), bnd2_some, ite_b, nI_1]
    unfold ffr
    cases aHeld A i
    · rfl
    · simpa using hi
/-- the reference's wrong -/
theorem m_wrong (hN : 5000 ≤ N) (hM : ModAt Z) (hR : RowAt M 117 A) (w : WF A c) : fX9_wrong N Z 116 M = wrR 6 M (aUnheld A) (wrR 7 M (aUnbr A) (wrR 8 M (aOver A) (some (0, M)))) := by
  have h1 := w.1
  unfold fX9_wrong
  exact m_wrong2 hN hM hR w (A 0) 0 N (by omega) (by omega)
theorem m_posts4 (hM : ModAt Z) (hR : RowAt M 117 A) (w : WF A c) : ∀ (j i fu : Nat), i + j = A 0 → j < fu → fX9_posts_4 N Z fu 116 (nI (sm (aPH A) i)) (nI i) M = some (nI (sm (aPH A) (A 0)), M) := by
  have h1 := w.1
  have e2 := fun p hp => m_postHigh (N := N) (p := p) hM hR w hp
  obtain ⟨o1, ⟨o2, -⟩, ⟨g4, g5, g6⟩, -⟩ := hM
  intro j
  induction j with
  | zero =>
    intro i fu h2 h3
    obtain ⟨fu, rfl⟩ : ∃ q, fu = q + 1 := ⟨fu - 1, by omega⟩
    rw [fX9_posts_4, ck_t o1, o2, bnd1_some, ck_t g5, g6, ck_t (by decide), cl_0, hR _ (by omega), if_pos (by rw [i_le (by omega) (by omega)]; omega), show i = A 0 by omega]
  | succ j ih =>
    intro i fu h2 h3
    obtain ⟨fu, rfl⟩ : ∃ q, fu = q + 1 := ⟨fu - 1, by omega⟩
    have hi := ih (i + 1) fu (by omega) (by omega)
    rw [sm_succ _ i] at hi
    rw [fX9_posts_4, ck_t o1, o2, bnd1_some, ck_t g5, g6, ck_t (by decide), cl_0, hR _ (by omega), if_neg (by rw [i_le (by omega) (by omega)]; omega), e2 i (by omega), bnd2_some, nI_1, nI_add]
    exact hi
theorem m_posts (hN : 5000 ≤ N) (hM : ModAt Z) (hR : RowAt M 117 A) (w : WF A c) : fX9_posts N Z 116 M = some (nI (sm (aPH A) (A 0)), M) := by
  have h1 := w.1
  unfold fX9_posts
  exact m_posts4 hM hR w (A 0) 0 N (by omega) (by omega)
end MR
