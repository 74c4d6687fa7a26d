/-! ===== LAYER 3: the class's ways ===== -/
def WaysAt (Z : mZ) (a : Nat) : Prop := okO Z a 6 = true ∧ Z.2.2.2 a 0 = some (a + 1) ∧ Z.2.2.2 a 1 = some (a + 2) ∧ Z.2.2.2 a 2 = some (a + 3) ∧ Z.2.2.2 a 3 = some (a + 4) ∧ ArrAt' Z (a + 1) 10 ∧ ArrAt' Z (a + 2) 70 ∧ ArrAt' Z (a + 3) 10 ∧ ArrAt' Z (a + 4) 10
def inW (a x : Nat) : Prop := a ≤ x ∧ x ≤ a + 4
/-- the ways hold a row's distances -/
def WaysR (M : mM) (a : Nat) (A : Row) : Prop := (∀ b, b < 10 → M.1 (a + 1) b = nI (rB A b)) ∧ (∀ b l, b < 10 → l < 7 → rch A b l = true → M.1 (a + 2) (7 * b + l) = nI (aD A (7 * b + l)))
theorem WaysR.same {S : Nat → Prop} {M M' : mM} {a : Nat} {A : Row} (h : WaysR M a A) (s : Same S M M') (hd : ∀ x, a ≤ x → x ≤ a + 4 → ¬ S x) : WaysR M' a A :=
  ⟨fun b hb => by rw [s.1 _ (hd _ (by omega) (by omega))]; exact h.1 b hb, fun b l hb hl hr => by rw [s.1 _ (hd _ (by omega) (by omega))]; exact h.2 b l hb hl hr⟩
theorem and_not : ∀ x, x < 128 → ∀ r, r < 128 → nI x &&& (nI r ^^^ (-1 : Int32)) = nI (x &&& (127 ^^^ r)) := by decide +kernel
theorem shl_one : ∀ x, x < 128 → nI x <<< ((1 : Int32) &&& 31) = nI (2 * x) := by decide +kernel
theorem shr_one : ∀ x, x < 128 → nI x >>> ((1 : Int32) &&& 31) = nI (x / 2) := by decide +kernel
section WY
variable {N : Nat} {Z : mZ} {a P : Nat} {A : Row} {c : Nat}
theorem w_put {S : Nat → Prop} {M M' : mM} {x k : Nat} {v : Int32} (h : Same S M M') (hx : S x) : Same S M (sI M' x k v) := h.trans (Same.put hx)
theorem w_next (hW : WaysAt Z a) (hP : PlanAt Z P) {M : mM} (hR : RelP M P A) (w : WF A c) {F R : Nat → Nat} (hL : ∀ b, b < 10 → M.1 (a + 3) b = nI (F b)) (hRr : ∀ b, b < 10 → M.1 (a + 1) b = nI (R b)) (hF : ∀ b, b < 10 → F b < 128 ∧ R b < 128) {b : Nat} (hb : b < A 0) :
    fX6_nextDecks N Z a P (nI b) M = some (nI (nxF A F R b), M) := by
  have h1 := w.1
  have h2 := aL_lt w hb
  have h3 := aR_lt w hb
  have e1 : fX4_levelsWith N Z P (5 : Int32) (nI b) M = some (nI (A (101 + b)), M) := k_levelsWith (k := 5) hP hR (by omega) (by omega) (by omega)
  have e2 : fX4_levelsWith N Z P (2 : Int32) (nI b) M = some (nI (dm A b), M) := k_levelsWith (k := 2) hP hR (by omega) (by omega) (by omega)
  have e3 := k_placeBefore (N := N) hP hR w hb
  have e4 := k_placeAfter (N := N) hP hR w hb
  have hl : A (101 + b) < 128 := (w.2.2.2.2.2.2.2.2.2.1 b (by omega)).1
  have hd := dm_lt A b
  have f0 := hF b (by omega)
  have f1 := hF (aL A b) (by omega)
  have f2 := hF (aR A b) (by omega)
  obtain ⟨o1, r1, -, r3, -, ⟨-, p5, p6⟩, -, ⟨-, q5, q6⟩, -⟩ := hW
  unfold fX6_nextDecks
  have x1 : F b &&& A (101 + b) < 128 := Nat.lt_of_le_of_lt Nat.and_le_left f0.1
  have x2 : (((2 * F b) &&& A (101 + b)) ||| ((F b &&& A (101 + b)) / 2)) ||| (F (aL A b) ||| F (aR A b)) < 128 := or_lt128 _ (or_lt128 _ (Nat.lt_of_le_of_lt Nat.and_le_right hl) _ (by omega)) _ (or_lt128 _ f1.1 _ f2.1)
  rw [ck_t hP.1, e1, bnd2_some, ck_t o1, r3, bnd1_some, k_at q5 (by omega) (by omega), bnd2_some, e3, bnd2_some, k_at q5 (by omega) (by omega), bnd2_some, e4, bnd2_some, k_at q5 (by omega) (by omega), bnd2_some, e2, bnd2_some, r1, bnd1_some, k_at p5 (by omega) (by omega), bnd2_some,
    hL _ (by omega), hL _ (by omega), hL _ (by omega), hRr _ (by omega), shl_one _ f0.1, nI_and, nI_and, shr_one _ x1, nI_or, nI_or, nI_or, nI_and, and_not _ (Nat.lt_of_le_of_lt Nat.and_le_left x2) _ f0.2]
  unfold nxF nxtB
  rw [if_pos hb]
/-- one step: the bits of one bay -/
theorem w_step62 (hW : WaysAt Z a) {g s b : Nat} (hg : g < 128) (hb : b < 10) (hs : s < 100) (K : Nat → Int32 → Int32 → Int32 → mM → Option (Int32 × mM)) (v2 : Int32) : ∀ (j l fu : Nat) (M : mM), l + j = 7 → 1 ≤ l → j < fu →
    ∃ M', fX6_isStepTaken_62 N Z K fu a (nI s) v2 (nI b) (nI g) (nI l) M = K a (nI s) v2 (nI (b + 1)) M' ∧ Same (fun x => x = a + 2) M M' ∧ (∀ v, M'.1 (a + 2) v = if 7 * b + l ≤ v ∧ v < 7 * b + 7 ∧ g.testBit (v - 7 * b) = true then nI s else M.1 (a + 2) v) := by
  obtain ⟨o1, -, r1, -, -, -, ⟨p4, p5, p6⟩, -⟩ := hW
  intro j
  induction j with
  | zero =>
    intro l fu M h1 h2 h3
    obtain ⟨fu, rfl⟩ : ∃ q, fu = q + 1 := ⟨fu - 1, by omega⟩
    refine ⟨M, ?_, Same.rfl, fun v => by rw [if_neg (by omega)]⟩
    rw [fX6_isStepTaken_62, if_pos (by rw [i_6, i_lt (by omega) (by omega)]; omega), nI_1]
  | succ j ih =>
    intro l fu M h1 h2 h3
    obtain ⟨fu, rfl⟩ : ∃ q, fu = q + 1 := ⟨fu - 1, by omega⟩
    cases hbt : g.testBit l with
    | false =>
      obtain ⟨M', e1, e2, e3⟩ := ih (l + 1) fu M (by omega) (by omega) (by omega)
      refine ⟨M', ?_, e2, fun v => ?_⟩
      · rw [fX6_isStepTaken_62, if_neg (by rw [i_6, i_lt (by omega) (by omega)]; omega), if_pos (by rw [bit_test (by omega) (by omega)]; exact hbt), nI_1]; exact e1
      · rw [e3 v]
        by_cases q : v = 7 * b + l
        · subst q
          rw [if_neg (by omega), if_neg (by rw [show 7 * b + l - 7 * b = l by omega, hbt]; simp)]
        · by_cases q2 : 7 * b + (l + 1) ≤ v ∧ v < 7 * b + 7 ∧ g.testBit (v - 7 * b) = true
          · rw [if_pos q2, if_pos ⟨by omega, q2.2⟩]
          · rw [if_neg q2, if_neg (fun q3 => q2 ⟨by omega, q3.2⟩)]
    | true =>
      obtain ⟨M', e1, e2, e3⟩ := ih (l + 1) fu (sI M (a + 2) (7 * b + l) (nI s)) (by omega) (by omega) (by omega)
      refine ⟨M', ?_, (Same.put (S := fun x => x = a + 2) rfl).trans e2, fun v => ?_⟩
      · rw [fX6_isStepTaken_62, if_neg (by rw [i_6, i_lt (by omega) (by omega)]; omega), if_neg (by rw [bit_test (by omega) (by omega), hbt]; decide), ck_t o1, r1, bnd1_some, i_7, pk_mul, nI_add, Nat.mul_comm b 7, k_write p4 (by omega) (by omega), bnd2_some, nI_1]; exact e1
      · rw [e3 v]
        by_cases q : v = 7 * b + l
        · subst q
          rw [if_neg (by omega), sI_same, if_pos ⟨by omega, by omega, by rw [show 7 * b + l - 7 * b = l by omega, hbt]⟩]
        · rw [sI_ne _ _ (by omega)]
          by_cases q2 : 7 * b + (l + 1) ≤ v ∧ v < 7 * b + 7 ∧ g.testBit (v - 7 * b) = true
          · rw [if_pos q2, if_pos ⟨by omega, q2.2⟩]
          · rw [if_neg q2, if_neg (fun q3 => q2 ⟨by omega, q3.2⟩)]
/-- one step -/
theorem w_step4 (hW : WaysAt Z a) (hN : 5000 ≤ N) {G R : Nat → Nat} {s : Nat} (hs : s < 100) (hG : ∀ b, b < 10 → G b < 128 ∧ (G b).testBit 0 = false) : ∀ (j i fu : Nat) (M : mM) (x : Bool), i + j = 10 → j < fu →
    (∀ b, b < 10 → M.1 (a + 4) b = nI (G b)) → (∀ b, i ≤ b → b < 10 → M.1 (a + 1) b = nI (R b)) → (x = true ↔ ∃ b, b < i ∧ G b ≠ 0) →
    ∃ M' y, fX6_isStepTaken_4 N Z fu a (nI s) (if x then 1 else 0) (nI i) M = some (if y then 1 else 0, M') ∧ Same (inW a) M M' ∧ (y = true ↔ ∃ b, b < 10 ∧ G b ≠ 0) ∧ (∀ b, b < 10 → M'.1 (a + 4) b = nI (G b)) ∧ (∀ b, i ≤ b → b < 10 → M'.1 (a + 1) b = nI (R b ||| G b)) ∧ (∀ b, b < i → M'.1 (a + 1) b = M.1 (a + 1) b) ∧
      (∀ b, i ≤ b → b < 10 → M'.1 (a + 3) b = nI (G b)) ∧ (∀ b, b < i → M'.1 (a + 3) b = M.1 (a + 3) b) ∧ (∀ b l, b < 10 → l < 7 → M'.1 (a + 2) (7 * b + l) = if i ≤ b ∧ (G b).testBit l = true then nI s else M.1 (a + 2) (7 * b + l)) := by
  have hW' := hW
  obtain ⟨o1, r0, r1, r2, r3, ⟨p4, p5, p6⟩, -, ⟨q4, q5, q6⟩, ⟨u4, u5, u6⟩⟩ := hW
  have inb : ∀ k, k ≤ 4 → inW a (a + k) := fun k hk => ⟨by omega, by omega⟩
  intro j
  induction j with
  | zero =>
    intro i fu M x h1 h2 h4 h5 h6
    obtain ⟨fu, rfl⟩ : ∃ q, fu = q + 1 := ⟨fu - 1, by omega⟩
    have hi : i = 10 := by omega
    subst hi
    refine ⟨M, x, ?_, Same.rfl, h6, h4, fun b hb hb2 => by omega, fun _ _ => rfl, fun b hb hb2 => by omega, fun _ _ => rfl, fun b l hb hl => by rw [if_neg (by omega)]⟩
    rw [fX6_isStepTaken_4, if_pos (by rw [i_10, i_le (by omega) (by omega)]; omega), ck_t (isB_ite x)]
  | succ j ih =>
    intro i fu M x h1 h2 h4 h5 h6
    obtain ⟨fu, rfl⟩ : ∃ q, fu = q + 1 := ⟨fu - 1, by omega⟩
    have g := hG i (by omega)
    obtain ⟨M1, hM1⟩ : ∃ M1, M1 = sI (sI M (a + 3) i (nI (G i))) (a + 1) i (nI (R i ||| G i)) := ⟨_, rfl⟩
    have s1 : Same (inW a) M M1 := by rw [hM1]; exact (Same.put (inb 3 (by omega))).trans (Same.put (inb 1 (by omega)))
    have m4 : ∀ b, M1.1 (a + 4) b = M.1 (a + 4) b := fun b => by rw [hM1, sI_ne _ _ (by omega), sI_ne _ _ (by omega)]
    have m2 : ∀ b, M1.1 (a + 2) b = M.1 (a + 2) b := fun b => by rw [hM1, sI_ne _ _ (by omega), sI_ne _ _ (by omega)]
    have m1 : ∀ b, b ≠ i → M1.1 (a + 1) b = M.1 (a + 1) b := fun b hb => by rw [hM1, sI_ne _ _ (by omega), sI_ne _ _ (by omega)]
    have m1i : M1.1 (a + 1) i = nI (R i ||| G i) := by rw [hM1, sI_same]
    have m3 : ∀ b, b ≠ i → M1.1 (a + 3) b = M.1 (a + 3) b := fun b hb => by rw [hM1, sI_ne _ _ (by omega), sI_ne _ _ (by omega)]
    have m3i : M1.1 (a + 3) i = nI (G i) := by rw [hM1, sI_ne _ _ (by omega), sI_same]
    rw [fX6_isStepTaken_4, if_neg (by rw [i_10, i_le (by omega) (by omega)]; omega), ck_t o1, r3, bnd1_some, k_at u5 (by omega) (by omega), bnd2_some, r2, bnd1_some, k_write q4 (by omega) (by omega), bnd2_some, r0, bnd1_some, k_at p5 (by omega) (by omega), bnd2_some, k_write p4 (by omega) (by omega), bnd2_some, h4 i (by omega), sI_ne _ _ (show ¬ (a + 1 = a + 3 ∧ i = i) by omega), h5 i (by omega) (by omega), nI_or, ← hM1, nI_1]
    by_cases hz : G i = 0
    · obtain ⟨M', y, e1, e2, e3, e4, e5, e6, e7, e8, e9⟩ := ih (i + 1) fu M1 x (by omega) (by omega) (fun b hb => by rw [m4]; exact h4 b hb) (fun b hb hb2 => by rw [m1 b (by omega)]; exact h5 b (by omega) hb2) (by
        rw [h6]; constructor
        · rintro ⟨b, q1, q2⟩; exact ⟨b, by omega, q2⟩
        · rintro ⟨b, q1, q2⟩
          exact ⟨b, by rcases (show b < i ∨ b = i by omega) with q | q; exact q; subst q; exact absurd hz q2, q2⟩)
      refine ⟨M', y, ?_, s1.trans e2, e3, e4, fun b hb hb2 => ?_, fun b hb => ?_, fun b hb hb2 => ?_, fun b hb => ?_, fun b l hb hl => ?_⟩
      · rw [if_pos (by rw [hz]; rfl)]; exact e1
      · by_cases q : b = i
        · subst q; rw [e6 b (by omega)]; exact m1i
        · exact e5 b (by omega) hb2
      · rw [e6 b (by omega)]; exact m1 b (by omega)
      · by_cases q : b = i
        · subst q; rw [e8 b (by omega)]; exact m3i
        · exact e7 b (by omega) hb2
      · rw [e8 b (by omega)]; exact m3 b (by omega)
      · rw [e9 b l hb hl, m2]
        by_cases q : b = i
        · subst q; rw [if_neg (by omega), if_neg (by rw [hz]; simp)]
        · by_cases q2 : i + 1 ≤ b ∧ (G b).testBit l = true
          · rw [if_pos q2, if_pos ⟨by omega, q2.2⟩]
          · rw [if_neg q2, if_neg (fun q3 => q2 ⟨by omega, q3.2⟩)]
    · obtain ⟨M2, d1, d2, d3⟩ := w_step62 (N := N) hW' g.1 (show i < 10 by omega) hs (fun w0 w1 w2 w3 M9 => fX6_isStepTaken_4 N Z fu w0 w1 w2 w3 M9) 1 6 1 N M1 (by omega) (by omega) (by omega)
      have n2 : ∀ r b, r ≠ a + 2 → M2.1 r b = M1.1 r b := fun r b hr => d2.1 r hr b
      have s2 : Same (inW a) M1 M2 := d2.mono (fun x hx => ⟨by omega, by omega⟩)
      obtain ⟨M', y, e1, e2, e3, e4, e5, e6, e7, e8, e9⟩ := ih (i + 1) fu M2 true (by omega) (by omega) (fun b hb => by rw [n2 _ _ (by omega), m4]; exact h4 b hb) (fun b hb hb2 => by rw [n2 _ _ (by omega), m1 b (by omega)]; exact h5 b (by omega) hb2) ⟨fun _ => ⟨i, by omega, hz⟩, fun _ => rfl⟩
      refine ⟨M', y, ?_, (s1.trans s2).trans e2, e3, e4, fun b hb hb2 => ?_, fun b hb => ?_, fun b hb hb2 => ?_, fun b hb => ?_, fun b l hb hl => ?_⟩
      · rw [if_neg (by rw [i_0, i_eq (by omega) (by omega)]; exact hz)]; exact d1.trans e1
      · by_cases q : b = i
        · subst q; rw [e6 b (by omega), n2 _ _ (by omega)]; exact m1i
        · exact e5 b (by omega) hb2
      · rw [e6 b (by omega), n2 _ _ (by omega)]; exact m1 b (by omega)
      · by_cases q : b = i
        · subst q; rw [e8 b (by omega), n2 _ _ (by omega)]; exact m3i
        · exact e7 b (by omega) hb2
      · rw [e8 b (by omega), n2 _ _ (by omega)]; exact m3 b (by omega)
      · rw [e9 b l hb hl, d3, m2]
        by_cases q : b = i
        · subst q
          rw [if_neg (by omega)]
          by_cases q2 : (G b).testBit l = true
          · have : l ≠ 0 := fun q3 => by subst q3; rw [g.2] at q2; cases q2
            rw [if_pos ⟨by omega, by omega, by rw [show 7 * b + l - 7 * b = l by omega]; exact q2⟩, if_pos ⟨by omega, q2⟩]
          · rw [if_neg (fun q3 => q2 (by have := q3.2.2; rw [show 7 * b + l - 7 * b = l by omega] at this; exact this)), if_neg (fun q3 => q2 q3.2)]
        · rw [if_neg (show ¬ (7 * i + 1 ≤ 7 * b + l ∧ 7 * b + l < 7 * i + 7 ∧ (G i).testBit (7 * b + l - 7 * i) = true) by omega)]
          by_cases q2 : i + 1 ≤ b ∧ (G b).testBit l = true
          · rw [if_pos q2, if_pos ⟨by omega, q2.2⟩]
          · rw [if_neg q2, if_neg (fun q3 => q2 ⟨by omega, q3.2⟩)]
/-- the decks that follow -/
theorem w_follow (hW : WaysAt Z a) (hP : PlanAt Z P) (hd : a + 5 ≤ P ∨ P + 6 ≤ a) (w : WF A c) {F R : Nat → Nat} (hF : ∀ b, b < 10 → F b < 128 ∧ R b < 128) (K : Nat → Nat → Int32 → mM → Option (Unit × mM)) (s : Nat) : ∀ (j i fu : Nat) (M : mM), i + j = A 0 → j < fu →
    RelP M P A → (∀ b, b < 10 → M.1 (a + 3) b = nI (F b)) → (∀ b, b < 10 → M.1 (a + 1) b = nI (R b)) →
    ∃ M', fX6_explore_65 N Z K fu a P (nI s) (nI i) M = K a P (nI (s + 1)) M' ∧ Same (fun x => x = a + 4) M M' ∧ (∀ b, i ≤ b → b < A 0 → M'.1 (a + 4) b = nI (nxF A F R b)) ∧ (∀ b, b < i ∨ A 0 ≤ b → M'.1 (a + 4) b = M.1 (a + 4) b) := by
  have h1 := w.1
  have hW' := hW
  have hP' := hP
  obtain ⟨o1, -, -, -, r3, -, -, -, ⟨u4, u5, u6⟩⟩ := hW
  intro j
  induction j with
  | zero =>
    intro i fu M h2 h3 hR _ _
    obtain ⟨fu, rfl⟩ : ∃ q, fu = q + 1 := ⟨fu - 1, by omega⟩
    refine ⟨M, ?_, Same.rfl, fun b _ _ => by omega, fun _ _ => rfl⟩
    rw [fX6_explore_65, ck_t hP.1, hR.1, if_pos (by rw [i_le (by omega) (by omega)]; omega), nI_1]
  | succ j ih =>
    intro i fu M h2 h3 hR hL hRr
    obtain ⟨fu, rfl⟩ : ∃ q, fu = q + 1 := ⟨fu - 1, by omega⟩
    have s1 : Same (fun x => x = a + 4) M (sI M (a + 4) i (nI (nxF A F R i))) := Same.put (S := fun x => x = a + 4) rfl
    obtain ⟨M', e1, e2, e3, e4⟩ := ih (i + 1) fu (sI M (a + 4) i (nI (nxF A F R i))) (by omega) (by omega) (hR.same s1 (fun x hx1 hx2 hx3 => by omega)) (fun b hb => by rw [sI_ne _ _ (by omega)]; exact hL b hb) (fun b hb => by rw [sI_ne _ _ (by omega)]; exact hRr b hb)
    refine ⟨M', ?_, s1.trans e2, fun b hb hb2 => ?_, fun b hb => ?_⟩
    · rw [fX6_explore_65, ck_t hP'.1, hR.1, if_neg (by rw [i_le (by omega) (by omega)]; omega), ck_t o1, r3, bnd1_some, w_next hW' hP' hR w hL hRr hF (by omega), bnd2_some, k_write u4 (by omega) (by omega), bnd2_some, nI_1]; exact e1
    · by_cases q : b = i
      · subst q; rw [e4 b (by omega), sI_same]
      · exact e3 b (by omega) hb2
    · rw [e4 b (by omega), sI_ne _ _ (by omega)]
/-- the beginning -/
theorem w_init (hW : WaysAt Z a) (hP : PlanAt Z P) (hd : a + 5 ≤ P ∨ P + 6 ≤ a) (w : WF A c) : ∀ (j i fu : Nat) (M : mM), i + j = 10 → j < fu → RelP M P A →
    ∃ M', fX6_explore_2 N Z fu a P (nI i) M = fX6_explore_48 N Z N a P 1 M' ∧ Same (inW a) M M' ∧ (∀ b, i ≤ b → b < 10 → M'.1 (a + 4) b = nI (fF0 A b) ∧ M'.1 (a + 1) b = nI 0) ∧ (∀ b, b < i → M'.1 (a + 4) b = M.1 (a + 4) b ∧ M'.1 (a + 1) b = M.1 (a + 1) b) := by
  have h1 := w.1
  have hP' := hP
  obtain ⟨o1, r0, -, -, r3, ⟨p4, p5, p6⟩, -, -, ⟨u4, u5, u6⟩⟩ := hW
  have inb : ∀ k, k ≤ 4 → inW a (a + k) := fun k hk => ⟨by omega, by omega⟩
  intro j
  induction j with
  | zero =>
    intro i fu M h2 h3 hR
    obtain ⟨fu, rfl⟩ : ∃ q, fu = q + 1 := ⟨fu - 1, by omega⟩
    refine ⟨M, ?_, Same.rfl, fun b _ _ => by omega, fun _ _ => ⟨rfl, rfl⟩⟩
    rw [fX6_explore_2, if_pos (by rw [i_10, i_le (by omega) (by omega)]; omega)]
  | succ j ih =>
    intro i fu M h2 h3 hR
    obtain ⟨fu, rfl⟩ : ∃ q, fu = q + 1 := ⟨fu - 1, by omega⟩
    have s0 : Same (inW a) M (sI M (a + 1) i (nI 0)) := Same.put (inb 1 (by omega))
    have s1 : Same (inW a) M (sI (sI M (a + 1) i (nI 0)) (a + 4) i (nI (fF0 A i))) := s0.trans (Same.put (inb 4 (by omega)))
    have hR0 : RelP (sI M (a + 1) i (nI 0)) P A := hR.same s0 (fun x hx1 hx2 hx3 => by have := hx3.1; have := hx3.2; omega)
    have k5 : fX4_levelsWith N Z P (5 : Int32) (nI i) (sI M (a + 1) i (nI 0)) = some (nI (A (101 + i)), sI M (a + 1) i (nI 0)) := k_levelsWith (k := 5) hP hR0 (by omega) (by omega) (by omega)
    have k2 : fX4_levelsWith N Z P (2 : Int32) (nI i) (sI M (a + 1) i (nI 0)) = some (nI (dm A i), sI M (a + 1) i (nI 0)) := k_levelsWith (k := 2) hP hR0 (by omega) (by omega) (by omega)
    obtain ⟨M', e1, e2, e3, e4⟩ := ih (i + 1) fu _ (by omega) (by omega) (hR.same s1 (fun x hx1 hx2 hx3 => by have := hx3.1; have := hx3.2; omega))
    refine ⟨M', ?_, s1.trans e2, fun b hb hb2 => ?_, fun b hb => ?_⟩
    · rw [fX6_explore_2, if_neg (by rw [i_10, i_le (by omega) (by omega)]; omega), ck_t o1, r0, bnd1_some, show (0 : Int32) = nI 0 from rfl, k_write p4 (by omega) (by omega), bnd2_some, r3, bnd1_some, ck_t hP'.1, k5, bnd2_some, k2, bnd2_some, nI_and, show (2 : Int32) = nI 2 from rfl, nI_and, k_write u4 (by omega) (by omega), bnd2_some, nI_1]; exact e1
    · by_cases q : b = i
      · subst q; rw [(e4 b (by omega)).1, (e4 b (by omega)).2, sI_same, sI_ne _ _ (by omega), sI_same]; exact ⟨rfl, rfl⟩
      · exact e3 b (by omega) hb2
    · rw [(e4 b (by omega)).1, (e4 b (by omega)).2, sI_ne _ _ (by omega), sI_ne _ _ (by omega), sI_ne _ _ (by omega), sI_ne _ _ (by omega)]; exact ⟨rfl, rfl⟩
end WY
