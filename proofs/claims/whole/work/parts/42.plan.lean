/-! ===== LAYER 3: the class's plan: loops that read ===== -/
def sm (f : Nat → Nat) : Nat → Nat
  | 0 => 0
  | n + 1 => sm f n + f n
theorem sm_succ (f : Nat → Nat) (n : Nat) : sm f (n + 1) = sm f n + f n := rfl
theorem sm_le {f : Nat → Nat} {k : Nat} : ∀ {n : Nat}, (∀ i, i < n → f i ≤ k) → sm f n ≤ n * k
  | 0, _ => Nat.zero_le _
  | n + 1, h => by
    have h1 := sm_le (n := n) (fun i hi => h i (by omega))
    have h2 := h n (by omega)
    simp only [sm, Nat.succ_mul]; omega
theorem sm_congr {f g : Nat → Nat} : ∀ {n : Nat}, (∀ i, i < n → f i = g i) → sm f n = sm g n
  | 0, _ => rfl
  | n + 1, h => by simp only [sm]; rw [sm_congr (n := n) (fun i hi => h i (by omega)), h n (by omega)]
/-- the first of j numbers from i on -/
def ffr (p : Nat → Bool) : Nat → Nat → Option Nat
  | 0, _ => none
  | j + 1, i => if p i then some i else ffr p j (i + 1)
theorem ffr_congr {p q : Nat → Bool} : ∀ (j i : Nat), (∀ a, i ≤ a → a < i + j → p a = q a) → ffr p j i = ffr q j i
  | 0, _, _ => rfl
  | j + 1, i, h => by
    simp only [ffr]
    rw [h i (by omega) (by omega), ffr_congr j (i + 1) (fun a h1 h2 => h a (by omega) (by omega))]
theorem ffr_lt {p : Nat → Bool} : ∀ (j i r : Nat), ffr p j i = some r → i ≤ r ∧ r < i + j
  | 0, _, _, h => by cases h
  | j + 1, i, r, h => by
    simp only [ffr] at h
    split at h
    · cases h; omega
    · have := ffr_lt j (i + 1) r h; omega
def optI : Option Nat → Int32
  | none => -1
  | some p => nI p
def pc (m : Nat) : Nat := m % 2 + m / 2 % 2 + m / 4 % 2 + m / 8 % 2 + m / 16 % 2 + m / 32 % 2 + m / 64 % 2 + m / 128 % 2 + m / 256 % 2 + m / 512 % 2 + m / 1024 % 2 + m / 2048 % 2 + m / 4096 % 2
theorem pc_le (m : Nat) : pc m ≤ 13 := by unfold pc; omega
def bc1 (a : Int32) : Int32 := a - ((a.toUInt32 >>> ((1 : Int32).toUInt32 &&& Int32.toUInt32 31)).toInt32 &&& 1431655765)
def bc2 (a : Int32) : Int32 := (a &&& 858993459) + ((a.toUInt32 >>> ((2 : Int32).toUInt32 &&& Int32.toUInt32 31)).toInt32 &&& 858993459)
def bc3 (a : Int32) : Int32 := (a + (a.toUInt32 >>> ((4 : Int32).toUInt32 &&& Int32.toUInt32 31)).toInt32) &&& 252645135
def bc4 (a : Int32) : Int32 := a + (a.toUInt32 >>> ((8 : Int32).toUInt32 &&& Int32.toUInt32 31)).toInt32
def bc5 (a : Int32) : Int32 := a + (a.toUInt32 >>> ((16 : Int32).toUInt32 &&& Int32.toUInt32 31)).toInt32
theorem bc_all : ∀ i, i < 128 → ∀ j, j < 64 → bc5 (bc4 (bc3 (bc2 (bc1 (nI (64 * i + j)))))) &&& 63 = nI (pc (64 * i + j)) := by decide +kernel
theorem k_bitCount {N : Nat} {Z : mZ} {M : mM} {m : Nat} (hm : m < 8192) : fJ6_bitCount_0f7a4 N Z (nI m) M = some (nI (pc m), M) := by
  have h := bc_all (m / 64) (by omega) (m % 64) (by omega)
  rw [show 64 * (m / 64) + m % 64 = m by omega] at h
  rw [← h]
  rfl
/-- the levels of a bay that are braced or the highest one, as a set, from level l on -/
def bsF (h br : Nat) : Nat → Nat → Nat → Nat
  | 0, _, acc => acc
  | j + 1, l, acc => bsF h br j (l + 1) (if l = h ∨ br.testBit l = true then acc ||| 2 ^ l else acc)
def bset (h br : Nat) : Nat := bsF h br h 1 0
def aBr (A : Row) (b : Nat) : Nat := A (91 + aL A b) ||| A (91 + b) ||| A (91 + aR A b)
def aBs (A : Row) (b : Nat) : Nat := bset (A (11 + b)) (aBr A b)
theorem bset_lt : ∀ h, h < 7 → ∀ br, br < 128 → bset h br < 128 := by decide +kernel
theorem or_lt128 : ∀ a, a < 128 → ∀ b, b < 128 → a ||| b < 128 := fun a ha b hb => Nat.or_lt_two_pow (n := 7) ha hb
def cls (A : Row) (b : Nat) : Nat := sm (fun l => A (21 + 7 * b + (l + 1))) 6
def aLoad (A : Row) (p : Nat) : Nat := 20 * aPH A p + 50 * (cls A p + cls A (aL A p))
theorem cls_le {A : Row} {c b : Nat} (w : WF A c) (hb : b < 10) : cls A b ≤ 24 := sm_le (n := 6) (k := 4) (fun i hi => w.2.2.2.2.2.2.1 b (i + 1) hb (by omega))
theorem aLoad_le {A : Row} {c p : Nat} (w : WF A c) (hp : p < A 0) : aLoad A p ≤ 2520 := by
  have h1 := cls_le w (b := p) (by have := w.1; omega)
  have h2 := cls_le w (b := aL A p) (by have := w.1; have := aL_lt w hp; omega)
  have h3 := aPH_le w hp
  unfold aLoad; omega
def aPieces (A : Row) (k : Nat) : Nat := sm (fun p => if k = 0 then aPH A p else if k = 1 then 2 * A (11 + p) else pc (mkS A k p)) (A 0)
def neF (ties span over h : Nat) : Nat → Nat → Nat → Nat
  | 0, _, acc => acc
  | j + 1, l, acc => neF ties span over h j (l + 1) (if ties.testBit l = true ∧ held (ties ^^^ 2 ^ l) span over h = false then acc ||| 2 ^ l else acc)
def moF (ties span over h : Nat) : Nat → Nat → Nat → Nat
  | 0, _, acc => acc
  | j + 1, l, acc => moF ties span over h j (l + 1) (if ties.testBit l = false ∧ held (ties ||| 2 ^ l) span over (h + 1) = true then acc ||| 2 ^ l else acc)
def aUnheld (A : Row) : Option Nat := ffr (fun p => !aHeld A p) (A 0) 0
def aUnbr (A : Row) : Option Nat := ffr (fun b => decide (aBs A b ≠ 2 ^ (A (11 + b) + 1) - 2)) (A 0) 0
def aOver (A : Row) : Option Nat := ffr (fun p => decide (A 3 < aLoad A p)) (A 0) 0
theorem test_and {m l : Nat} (hl : l < 31) : ((nI m &&& ((1 : Int32) <<< (nI l &&& 31))) = 0) = (m.testBit l = false) := by
  rw [bit_shl hl, nI_and, show (0 : Int32) = nI 0 from rfl]
  have h1 : m &&& 2 ^ l ≤ 2 ^ l := Nat.and_le_right
  have h2 : 2 ^ l < 2147483648 := Nat.lt_of_lt_of_le (Nat.pow_lt_pow_right (by decide) hl) (by decide)
  rw [i_eq (by omega) (by omega)]
  apply propext
  constructor
  · intro h
    cases hb : m.testBit l with
    | false => rfl
    | true =>
      have h3 : (m &&& 2 ^ l).testBit l = true := by rw [Nat.testBit_and, hb, Nat.testBit_two_pow_self]; rfl
      rw [h] at h3; simp at h3
  · intro h
    apply Nat.eq_of_testBit_eq
    intro i
    rw [Nat.testBit_and, Nat.zero_testBit, Nat.testBit_two_pow]
    by_cases hi : l = i
    · subst hi; simp [h]
    · simp [hi]
section KP2
variable {N : Nat} {Z : mZ} {M : mM} {b : Nat} {A : Row} {c : Nat}
theorem ite_b (q : Bool) {α : Sort _} (x y : α) : (if (if q = true then (1 : Int32) else 0) = 0 then x else y) = if q = true then y else x := by cases q <;> rfl
theorem k_lowestUnheld2 (hN : 5000 ≤ N) (hP : PlanAt Z b) (hR : RelP M b A) (w : WF A c) : ∀ (j i fu : Nat), i + j = A 0 → j < fu → fX4_lowestUnheldPost_2 N Z fu b (nI i) M = some (optI (ffr (fun p => !aHeld A p) j i), M) := by
  have h1 := w.1
  intro j
  induction j with
  | zero =>
    intro i fu h2 h3
    obtain ⟨fu, rfl⟩ : ∃ q, fu = q + 1 := ⟨fu - 1, by omega⟩
    rw [fX4_lowestUnheldPost_2, ck_t hP.1, hR.1, if_pos (by rw [i_le (by omega) (by omega)]; omega)]
    rfl
  | succ j ih =>
    intro i fu h2 h3
    obtain ⟨fu, rfl⟩ : ∃ q, fu = q + 1 := ⟨fu - 1, by omega⟩
    have ht : A (111 + i) < 128 := (w.2.2.2.2.2.2.2.2.2.2.1 i (by omega)).1
    have hm : mkS A 4 i = A (111 + i) := rfl
    have hh := aPH_le w (p := i) (by omega)
    rw [fX4_lowestUnheldPost_2, ck_t hP.1, hR.1, if_neg (by rw [i_le (by omega) (by omega)]; omega), i_4, k_levelsWith hP hR (by omega) (by omega) (by omega), bnd2_some, k_postHeight hP hR w (by omega), bnd2_some, hm, k_isHeldBy hN hP hR w (by omega) (by omega), bnd2_some, ite_b, nI_1, ih (i + 1) fu (by omega) (by omega)]
    simp only [ffr, aHeld]
    by_cases hq : held (A (111 + i)) (A 1) (A 2) (aPH A i) = true
    · simp only [hq, if_true, Bool.not_true, Bool.false_eq_true, if_false]
    · have hq' : held (A (111 + i)) (A 1) (A 2) (aPH A i) = false := by simpa using hq
      simp only [hq', Bool.false_eq_true, if_false, Bool.not_false, if_true, optI]
theorem k_lowestUnheld (hN : 5000 ≤ N) (hP : PlanAt Z b) (hR : RelP M b A) (w : WF A c) : fX4_lowestUnheldPost N Z b M = some (optI (aUnheld A), M) := by
  have h1 := w.1
  unfold fX4_lowestUnheldPost aUnheld
  exact k_lowestUnheld2 hN hP hR w (A 0) 0 N (by omega) (by omega)
theorem k_braced44 {h br : Nat} (hh : h ≤ 6) (hb : br < 128) : ∀ (j fu l acc : Nat), l + j = h + 1 → j < fu → fX4_bracedOrHighest_44 N Z fu (nI h) (nI br) (nI acc) (nI l) M = some (nI (bsF h br j l acc), M) := by
  intro j
  induction j with
  | zero =>
    intro fu l acc h1 h2
    obtain ⟨fu, rfl⟩ : ∃ q, fu = q + 1 := ⟨fu - 1, by omega⟩
    rw [fX4_bracedOrHighest_44, if_pos (by rw [i_lt (by omega) (by omega)]; omega)]; rfl
  | succ j ih =>
    intro fu l acc h1 h2
    obtain ⟨fu, rfl⟩ : ∃ q, fu = q + 1 := ⟨fu - 1, by omega⟩
    rw [fX4_bracedOrHighest_44, if_neg (by rw [i_lt (by omega) (by omega)]; omega)]
    simp only [i_eq (show l < 2147483648 by omega) (show h < 2147483648 by omega), bit_test (show br < 2147483648 by omega) (show l < 32 by omega), bit_shl (show l < 31 by omega), nI_or, nI_1, ih fu (l + 1) _ (by omega) (by omega), bsF]
    by_cases hl : l = h
    · rw [if_pos hl, if_pos (Or.inl hl)]
    · rw [if_neg hl]
      cases hbt : br.testBit l <;> simp [hl]
theorem k_braced (hN : 5000 ≤ N) (hP : PlanAt Z b) (hR : RelP M b A) (w : WF A c) {i : Nat} (hi : i < A 0) : fX4_bracedOrHighest N Z b (nI i) M = some (nI (aBs A i), M) := by
  have h1 := w.1
  have h2 := aL_lt w hi
  have h3 := aR_lt w hi
  have hh := w.2.2.2.2.1 i (by omega)
  have hbr : ∀ q, q < 10 → A (91 + q) < 128 := fun q hq => (w.2.2.2.2.2.2.2.2.1 q hq).1
  have e1 := k_placeBefore (N := N) hP hR w hi
  have e2 := k_placeAfter (N := N) hP hR w hi
  have e3 : ∀ q, q < 10 → fX4_levelsWith N Z b (3 : Int32) (nI q) M = some (nI (A (91 + q)), M) := fun q hq => k_levelsWith (k := 3) hP hR (by omega) (by omega) hq
  obtain ⟨o1, o2, -, -, -, -, ⟨-, o5, o6⟩, -⟩ := hP
  unfold fX4_bracedOrHighest
  rw [ck_t o1, o2, bnd1_some, k_at o5 (by omega) (by omega), bnd2_some, e1, bnd2_some, e3 _ (by omega), bnd2_some, e3 _ (by omega), bnd2_some, e2, bnd2_some, e3 _ (by omega), bnd2_some, hR.2.2.1 _ (by omega), nI_or, nI_or]
  exact k_braced44 hh (or_lt128 _ (or_lt128 _ (hbr _ (by omega)) _ (hbr _ (by omega))) _ (hbr _ (by omega))) (A (11 + i)) N 1 0 (by omega) (by omega)
theorem all_lv : ∀ h, h < 7 → ((2 : Int32) <<< (nI h &&& 31)) - 2 = nI (2 ^ (h + 1) - 2) := by decide +kernel
theorem k_lowestUnbraced2 (hN : 5000 ≤ N) (hP : PlanAt Z b) (hR : RelP M b A) (w : WF A c) : ∀ (j i fu : Nat), i + j = A 0 → j < fu → fX4_lowestUnbracedBay_2 N Z fu b (nI i) M = some (optI (ffr (fun b => decide (aBs A b ≠ 2 ^ (A (11 + b) + 1) - 2)) j i), M) := by
  have h1 := w.1
  intro j
  induction j with
  | zero =>
    intro i fu h2 h3
    obtain ⟨fu, rfl⟩ : ∃ q, fu = q + 1 := ⟨fu - 1, by omega⟩
    rw [fX4_lowestUnbracedBay_2, ck_t hP.1, hR.1, if_pos (by rw [i_le (by omega) (by omega)]; omega)]
    rfl
  | succ j ih =>
    intro i fu h2 h3
    obtain ⟨fu, rfl⟩ : ∃ q, fu = q + 1 := ⟨fu - 1, by omega⟩
    have hi := ih (i + 1) fu (by omega) (by omega)
    have hb := k_braced hN hP hR w (i := i) (by omega)
    have hh := w.2.2.2.2.1 i (by omega)
    have hbr : ∀ q, q < 10 → A (91 + q) < 128 := fun q hq => (w.2.2.2.2.2.2.2.2.1 q hq).1
    have hl := bset_lt (A (11 + i)) (by omega) (aBr A i) (or_lt128 _ (or_lt128 _ (hbr _ (by have := aL_lt w (p := i) (by omega); omega)) _ (hbr _ (by omega))) _ (hbr _ (by have := aR_lt w (p := i) (by omega); omega)))
    have hp : 2 ^ (A (11 + i) + 1) ≤ 2 ^ 7 := Nat.pow_le_pow_right (by decide) (by omega)
    obtain ⟨o1, o2, -, -, -, -, ⟨-, o5, o6⟩, -⟩ := hP
    rw [fX4_lowestUnbracedBay_2, ck_t o1, hR.1, if_neg (by rw [i_le (by omega) (by omega)]; omega), o2, bnd1_some, k_at o5 (by omega) (by omega), bnd2_some, hb, bnd2_some, hR.2.2.1 _ (by omega), all_lv _ (by omega), nI_1, hi]
    have hl' : aBs A i < 128 := hl
    by_cases hq : aBs A i = 2 ^ (A (11 + i) + 1) - 2
    · rw [if_pos (by rw [hq])]; simp only [ffr]; rw [if_neg (by simp [hq])]
    · rw [if_neg (by rw [i_eq (by omega) (by omega)]; exact hq)]; simp only [ffr]; rw [if_pos (by simp [hq])]; rfl
theorem k_lowestUnbraced (hN : 5000 ≤ N) (hP : PlanAt Z b) (hR : RelP M b A) (w : WF A c) : fX4_lowestUnbracedBay N Z b M = some (optI (aUnbr A), M) := by
  have h1 := w.1
  unfold fX4_lowestUnbracedBay aUnbr
  exact k_lowestUnbraced2 hN hP hR w (A 0) 0 N (by omega) (by omega)
theorem k_postLoad20 (hP : PlanAt Z b) (hR : RelP M b A) (w : WF A c) {p : Nat} (hp : p < A 0) : ∀ (j i fu : Nat), i + j = 6 → j < fu → fX4_postLoad_20 N Z fu b (nI p) (nI (aL A p * 7)) (nI (p * 7)) (nI (sm (fun l => A (21 + 7 * aL A p + (l + 1)) + A (21 + 7 * p + (l + 1))) i)) (nI (i + 1)) M = some (nI (20 * aPH A p + 50 * sm (fun l => A (21 + 7 * aL A p + (l + 1)) + A (21 + 7 * p + (l + 1))) 6), M) := by
  have h1 := w.1
  have h2 := aL_lt w hp
  intro j
  induction j with
  | zero =>
    intro i fu h3 h4
    obtain ⟨fu, rfl⟩ : ∃ q, fu = q + 1 := ⟨fu - 1, by omega⟩
    have h5 : i = 6 := by omega
    subst h5
    rw [fX4_postLoad_20, if_pos (by rw [i_6, i_lt (by omega) (by omega)]; omega), ck_t hP.1, k_postHeight hP hR w hp, bnd2_some, i_20, i_50, pk_mul, pk_mul, nI_add]
  | succ j ih =>
    intro i fu h3 h4
    obtain ⟨fu, rfl⟩ : ∃ q, fu = q + 1 := ⟨fu - 1, by omega⟩
    have hi := ih (i + 1) fu (by omega) (by omega)
    obtain ⟨o1, -, -, o2, -, -, -, -, ⟨-, o5, o6⟩, -⟩ := hP
    rw [fX4_postLoad_20, if_neg (by rw [i_6, i_lt (by omega) (by omega)]; omega), ck_t o1, o2, bnd1_some, nI_add, k_at o5 (by omega) (by omega), bnd2_some, nI_add, k_at o5 (by omega) (by omega), bnd2_some, hR.2.2.2.2.2.1 _ (by omega), hR.2.2.2.2.2.1 _ (by omega), nI_add, nI_add, nI_1]
    rw [← hi, sm_succ _ i]
    rw [show 21 + (aL A p * 7 + (i + 1)) = 21 + 7 * aL A p + (i + 1) by omega, show 21 + (p * 7 + (i + 1)) = 21 + 7 * p + (i + 1) by omega]
theorem sm_add (f g : Nat → Nat) : ∀ n, sm (fun l => f l + g l) n = sm f n + sm g n
  | 0 => rfl
  | n + 1 => by simp only [sm, sm_add f g n]; omega
theorem k_postLoad (hN : 5000 ≤ N) (hP : PlanAt Z b) (hR : RelP M b A) (w : WF A c) {p : Nat} (hp : p < A 0) : fX4_postLoad N Z b (nI p) M = some (nI (aLoad A p), M) := by
  unfold fX4_postLoad
  rw [ck_t hP.1, k_placeBefore hP hR w hp, bnd2_some, i_7, pk_mul, pk_mul]
  have h := k_postLoad20 (N := N) hP hR w hp 6 0 N (by omega) (by omega)
  rw [sm_add _ _ 6] at h
  unfold aLoad cls
  rw [Nat.add_comm (sm (fun l => A (21 + 7 * p + (l + 1))) 6)]
  exact h
theorem k_lowestOver11 (hN : 5000 ≤ N) (hP : PlanAt Z b) (hR : RelP M b A) (w : WF A c) : ∀ (j i fu : Nat), i + j = A 0 → j < fu → fX4_lowestOverloadedPost_11 N Z fu b (nI (A 3)) (nI i) M = some (optI (ffr (fun p => decide (A 3 < aLoad A p)) j i), M) := by
  have h1 := w.1
  have h9 := w.2.2.2.1
  intro j
  induction j with
  | zero =>
    intro i fu h2 h3
    obtain ⟨fu, rfl⟩ : ∃ q, fu = q + 1 := ⟨fu - 1, by omega⟩
    rw [fX4_lowestOverloadedPost_11, ck_t hP.1, hR.1, if_pos (by rw [i_le (by omega) (by omega)]; omega)]
    rfl
  | succ j ih =>
    intro i fu h2 h3
    obtain ⟨fu, rfl⟩ : ∃ q, fu = q + 1 := ⟨fu - 1, by omega⟩
    have h4 := aLoad_le w (p := i) (by omega)
    rw [fX4_lowestOverloadedPost_11, ck_t hP.1, hR.1, if_neg (by rw [i_le (by omega) (by omega)]; omega), k_postLoad hN hP hR w (by omega), bnd2_some, nI_1, ih (i + 1) fu (by omega) (by omega)]
    by_cases hq : A 3 < aLoad A i
    · rw [if_neg (by rw [i_le (by omega) (by omega)]; omega)]; simp only [ffr]; rw [if_pos (by simp [hq])]; rfl
    · rw [if_pos (by rw [i_le (by omega) (by omega)]; omega)]; simp only [ffr]; rw [if_neg (by simp [hq])]
theorem k_lowestOver (hN : 5000 ≤ N) (hP : PlanAt Z b) (hR : RelP M b A) (w : WF A c) : fX4_lowestOverloadedPost N Z b M = some (optI (aOver A), M) := by
  have h1 := w.1
  have h := k_lowestOver11 hN hP hR w (A 0) 0 N (by omega) (by omega)
  obtain ⟨o1, -, -, -, o2, -, -, -, -, ⟨-, o5, o6⟩, -⟩ := hP
  unfold fX4_lowestOverloadedPost aOver
  rw [ck_t o1, o2, bnd1_some, k_at2 o5 (by omega) (by omega), bnd2_some, hR.r2]
  exact h
theorem optI_none {x : Option Nat} (h : ∀ r, x = some r → r < 100) : optI x = -1 ↔ x = none := by
  cases x with
  | none => simp [optI]
  | some r =>
    have hr := h r rfl
    have : ∀ r, r < 100 → nI r ≠ -1 := by decide +kernel
    simp [optI, this r hr]
theorem k_isStable (hN : 5000 ≤ N) (hP : PlanAt Z b) (hR : RelP M b A) (w : WF A c) : fX4_isStable N Z b M = some (if aUnheld A = none ∧ aUnbr A = none ∧ aOver A = none then 1 else 0, M) := by
  have h1 := w.1
  have b1 : ∀ r, aUnheld A = some r → r < 100 := fun r hr => by have := ffr_lt _ _ _ hr; omega
  have b2 : ∀ r, aUnbr A = some r → r < 100 := fun r hr => by have := ffr_lt _ _ _ hr; omega
  have b3 : ∀ r, aOver A = some r → r < 100 := fun r hr => by have := ffr_lt _ _ _ hr; omega
  unfold fX4_isStable
  rw [ck_t hP.1, k_lowestUnheld hN hP hR w, bnd2_some]
  by_cases q1 : aUnheld A = none
  · rw [if_pos ((optI_none b1).mpr q1), k_lowestUnbraced hN hP hR w, bnd2_some]
    by_cases q2 : aUnbr A = none
    · rw [if_pos ((optI_none b2).mpr q2), k_lowestOver hN hP hR w, bnd2_some]
      by_cases q3 : aOver A = none
      · rw [if_pos ((optI_none b3).mpr q3), if_pos ⟨q1, q2, q3⟩]
      · rw [if_neg (fun q => q3 ((optI_none b3).mp q)), if_neg (fun q => q3 q.2.2)]
    · rw [if_neg (fun q => q2 ((optI_none b2).mp q)), if_neg (fun q => q2 q.2.1)]
  · rw [if_neg (fun q => q1 ((optI_none b1).mp q)), if_neg (fun q => q1 q.1)]
theorem k_pieces4 (hP : PlanAt Z b) (hR : RelP M b A) (w : WF A c) {k : Nat} (hk : k ≤ 5) : ∀ (j i fu : Nat), i + j = A 0 → j < fu → fX4_piecesPlaced_4 N Z fu b (nI k) (nI (sm (fun p => if k = 0 then aPH A p else if k = 1 then 2 * A (11 + p) else pc (mkS A k p)) i)) (nI i) M = some (nI (aPieces A k), M) := by
  have h1 := w.1
  intro j
  induction j with
  | zero =>
    intro i fu h2 h3
    obtain ⟨fu, rfl⟩ : ∃ q, fu = q + 1 := ⟨fu - 1, by omega⟩
    have h4 : i = A 0 := by omega
    rw [fX4_piecesPlaced_4, ck_t hP.1, hR.1, if_pos (by rw [i_le (by omega) (by omega)]; omega), h4]
    rfl
  | succ j ih =>
    intro i fu h2 h3
    obtain ⟨fu, rfl⟩ : ∃ q, fu = q + 1 := ⟨fu - 1, by omega⟩
    have hi := ih (i + 1) fu (by omega) (by omega)
    simp only [sm] at hi
    have e1 := k_postHeight (N := N) hP hR w (p := i) (by omega)
    have e2 := hR.2.2.1 i (by omega)
    rw [fX4_piecesPlaced_4, ck_t hP.1, hR.1, if_neg (by rw [i_le (by omega) (by omega)]; omega)]
    simp only [i_0, i_1, i_eq (show k < 2147483648 by omega) (show 0 < 2147483648 by omega), i_eq (show k < 2147483648 by omega) (show 1 < 2147483648 by omega)]
    by_cases k0 : k = 0
    · subst k0
      rw [if_pos rfl, e1, bnd2_some, nI_add, nI_add]
      simpa using hi
    · rw [if_neg k0]
      by_cases k1 : k = 1
      · subst k1
        obtain ⟨-, o2, -, -, -, -, ⟨-, o5, o6⟩, -⟩ := hP
        rw [if_pos rfl, o2, bnd1_some, k_at o5 (by omega) (by omega), bnd2_some, e2, i_2, pk_mul, nI_add, nI_add]
        simpa using hi
      · rw [if_neg k1, k_levelsWith hP hR (by omega) (by omega) (by omega), bnd2_some, k_bitCount (by have := mkS_lt w (k := k) (p := i) (by omega) (by omega); omega), bnd2_some, nI_add, nI_add]
        simpa [k0, k1] using hi
theorem k_pieces (hN : 5000 ≤ N) (hP : PlanAt Z b) (hR : RelP M b A) (w : WF A c) {k : Nat} (hk : k ≤ 5) : fX4_piecesPlaced N Z b (nI k) M = some (nI (aPieces A k), M) := by
  have h1 := w.1
  unfold fX4_piecesPlaced
  exact k_pieces4 hP hR w hk (A 0) 0 N (by omega) (by omega)
theorem k_sum4 (hP : PlanAt Z b) (hR : RelP M b A) : ∀ (j i fu : Nat), i + j = 70 → j < fu → fX4_sumOfClasses_4 N Z fu b (nI (sm (fun q => A (21 + q)) i)) (nI i) M = some (nI (sm (fun q => A (21 + q)) 70), M) := by
  intro j
  induction j with
  | zero =>
    intro i fu h2 h3
    obtain ⟨fu, rfl⟩ : ∃ q, fu = q + 1 := ⟨fu - 1, by omega⟩
    have h4 : i = 70 := by omega
    subst h4
    obtain ⟨o1, -, -, o2, -, -, -, -, ⟨-, o5, o6⟩, -⟩ := hP
    rw [fX4_sumOfClasses_4, ck_t o1, o2, bnd1_some, ck_t o5, o6, if_pos (by rw [i_ofNat, i_le (by omega) (by omega)]; omega)]
  | succ j ih =>
    intro i fu h2 h3
    obtain ⟨fu, rfl⟩ : ∃ q, fu = q + 1 := ⟨fu - 1, by omega⟩
    have hi := ih (i + 1) fu (by omega) (by omega)
    rw [sm_succ _ i] at hi
    obtain ⟨o1, -, -, o2, -, -, -, -, ⟨-, o5, o6⟩, -⟩ := hP
    rw [fX4_sumOfClasses_4, ck_t o1, o2, bnd1_some, ck_t o5, o6, if_neg (by rw [i_ofNat, i_le (by omega) (by omega)]; omega), ck_t (by rw [i_inB (by omega)]; exact decide_eq_true (by omega)), i_cl (by omega), hR.2.2.2.2.2.1 _ (by omega), nI_add, nI_1]
    exact hi
theorem k_sum (hN : 5000 ≤ N) (hP : PlanAt Z b) (hR : RelP M b A) : fX4_sumOfClasses N Z b M = some (nI (sm (fun q => A (21 + q)) 70), M) := by
  unfold fX4_sumOfClasses
  exact k_sum4 hP hR 70 0 N (by omega) (by omega)
theorem k_needed19 (hN : 5000 ≤ N) (hP : PlanAt Z b) (hR : RelP M b A) (w : WF A c) {ties h : Nat} (ht : ties < 128) (hh : h ≤ 6) : ∀ (j fu l acc : Nat), l + j = h + 1 → 1 ≤ l → j < fu → fX4_neededTies_19 N Z fu b (nI ties) (nI h) (nI acc) (nI l) M = some (nI (neF ties (A 1) (A 2) h j l acc), M) := by
  intro j
  induction j with
  | zero =>
    intro fu l acc h1 h0 h2
    obtain ⟨fu, rfl⟩ : ∃ q, fu = q + 1 := ⟨fu - 1, by omega⟩
    rw [fX4_neededTies_19, if_pos (by rw [i_lt (by omega) (by omega)]; omega)]; rfl
  | succ j ih =>
    intro fu l acc h1 h0 h2
    obtain ⟨fu, rfl⟩ : ∃ q, fu = q + 1 := ⟨fu - 1, by omega⟩
    have hp : 2 ^ l ≤ 2 ^ 6 := Nat.pow_le_pow_right (by decide) (by omega)
    have hx : ties ^^^ 2 ^ l < 128 := Nat.xor_lt_two_pow (n := 7) ht (by omega)
    rw [fX4_neededTies_19, if_neg (by rw [i_lt (by omega) (by omega)]; omega)]
    simp only [test_and (show l < 31 by omega)]
    simp only [bit_shl (show l < 31 by omega), nI_xor, nI_or, nI_1, neF]
    have e := fun acc => ih fu (l + 1) acc (by omega) (by omega) (by omega)
    rw [ck_t hP.1, k_isHeldBy hN hP hR w (by omega) (by omega), bnd2_some, ite_b]
    cases hb : ties.testBit l <;> cases hc : held (ties ^^^ 2 ^ l) (A 1) (A 2) h <;> simp [e]
theorem k_needed (hN : 5000 ≤ N) (hP : PlanAt Z b) (hR : RelP M b A) (w : WF A c) {p : Nat} (hp : p < A 0) : fX4_neededTies N Z b (nI p) M = some (nI (neF (A (111 + p)) (A 1) (A 2) (aPH A p) (aPH A p) 1 0), M) := by
  have h1 := w.1
  have hh := aPH_le w hp
  unfold fX4_neededTies
  rw [ck_t hP.1, i_4, k_levelsWith hP hR (by omega) (by omega) (by omega), bnd2_some, k_postHeight hP hR w hp, bnd2_some]
  exact k_needed19 hN hP hR w (w.2.2.2.2.2.2.2.2.2.2.1 p (by omega)).1 hh _ N 1 0 (by omega) (by omega) (by omega)
theorem k_more19 (hN : 5000 ≤ N) (hP : PlanAt Z b) (hR : RelP M b A) (w : WF A c) {ties h : Nat} (ht : ties < 128) (hh : h ≤ 6) : ∀ (j fu l acc : Nat), l + j = h + 1 → 1 ≤ l → j < fu → fX4_tiesForOneLevelMore_19 N Z fu b (nI ties) (nI h) (nI acc) (nI l) M = some (nI (moF ties (A 1) (A 2) h j l acc), M) := by
  intro j
  induction j with
  | zero =>
    intro fu l acc h1 h0 h2
    obtain ⟨fu, rfl⟩ : ∃ q, fu = q + 1 := ⟨fu - 1, by omega⟩
    rw [fX4_tiesForOneLevelMore_19, if_pos (by rw [i_lt (by omega) (by omega)]; omega)]; rfl
  | succ j ih =>
    intro fu l acc h1 h0 h2
    obtain ⟨fu, rfl⟩ : ∃ q, fu = q + 1 := ⟨fu - 1, by omega⟩
    have hp : 2 ^ l ≤ 2 ^ 6 := Nat.pow_le_pow_right (by decide) (by omega)
    have hx : ties ||| 2 ^ l < 128 := Nat.or_lt_two_pow (n := 7) ht (by omega)
    rw [fX4_tiesForOneLevelMore_19, if_neg (by rw [i_lt (by omega) (by omega)]; omega)]
    simp only [test_and (show l < 31 by omega)]
    simp only [bit_shl (show l < 31 by omega), nI_or, nI_1, moF]
    have e := fun acc => ih fu (l + 1) acc (by omega) (by omega) (by omega)
    rw [ck_t hP.1, k_isHeldBy hN hP hR w (by omega) (by omega), bnd2_some, ite_b]
    cases hb : ties.testBit l <;> cases hc : held (ties ||| 2 ^ l) (A 1) (A 2) (h + 1) <;> simp [e]
theorem k_more (hN : 5000 ≤ N) (hP : PlanAt Z b) (hR : RelP M b A) (w : WF A c) {p : Nat} (hp : p < A 0) : fX4_tiesForOneLevelMore N Z b (nI p) M = some (nI (moF (A (111 + p)) (A 1) (A 2) (aPH A p) (aPH A p) 1 0), M) := by
  have h1 := w.1
  have hh := aPH_le w hp
  unfold fX4_tiesForOneLevelMore
  rw [ck_t hP.1, i_4, k_levelsWith hP hR (by omega) (by omega) (by omega), bnd2_some, k_postHeight hP hR w hp, bnd2_some]
  exact k_more19 hN hP hR w (w.2.2.2.2.2.2.2.2.2.2.1 p (by omega)).1 hh _ N 1 0 (by omega) (by omega) (by omega)
end KP2
