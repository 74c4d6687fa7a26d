/-! ===== LAYER 3: the class's carryOut, and the shape that it keeps ===== -/
def JobR (M : mM) (w what p l cls : Nat) (tk : Bool) : Prop := M.1 w 0 = nI what ∧ M.1 w 1 = nI p ∧ M.1 w 2 = nI l ∧ M.1 w 3 = nI cls ∧ M.1 w 4 = if tk then 1 else 0
theorem neg1_mul : ∀ d, d ≤ 2 → (-(1 : Int32)) * nI d = - nI d := by decide
theorem neg11_mul : ∀ d, d ≤ 2 → (-(-1 : Int32)) * nI d = nI d := by decide
theorem add_neg (a d : Nat) (h : d ≤ a) : nI a + - nI d = nI (a - d) := by
  rw [← Int32.sub_eq_add_neg]; exact i_sub h
theorem testBit_x (m l i : Nat) : (m ^^^ 2 ^ l).testBit i = (m.testBit i != decide (l = i)) := by
  rw [Nat.testBit_xor, Nat.testBit_two_pow]
section KP5
variable {N : Nat} {Z : mZ} {M : mM} {b w : Nat} {A : Row} {c : Nat}
theorem k_heightFor (hP : PlanAt Z b) (hJ : okO Z w 7 = true) (hR : RelP M b A) (w0 : WF A c) {what p : Nat} (h0 : M.1 w 0 = nI what) (h1 : M.1 w 1 = nI p) (hw : what ≤ 5) (hp : p < A 0) : fX4_heightFor N Z b w M = some (nI (hFor A what p), M) := by
  have h3 := w0.1
  have e1 := k_postHeight (N := N) hP hR w0 hp
  obtain ⟨o1, o2, -, -, -, -, ⟨-, o5, o6⟩, -⟩ := hP
  unfold fX4_heightFor hFor
  rw [ck_t hJ, h0, h1]
  by_cases q : what = 4
  · rw [if_pos (by rw [q]; rfl), if_pos q, ck_t o1, e1, bnd2_some]
  · rw [if_neg (by rw [i_4, i_eq (by omega) (by omega)]; exact q), if_neg q, ck_t o1, o2, bnd1_some, k_at o5 (by omega) (by omega), bnd2_some, hR.2.2.1 _ (by omega)]
/-- a level of a bay -/
theorem k_carryH (hP : PlanAt Z b) (hJ : okO Z w 7 = true) (hw : w < b ∨ b + 5 < w) (hR : RelP M b A) (w0 : WF A c) {p l cls : Nat} {tk : Bool} (hj : JobR M w 0 p l cls tk) (ho : OkA A 0 p l cls tk) :
    ∃ M', fX4_carryOut N Z b w M = some ((), M') ∧ RelP M' b (doA A 0 p l cls tk) ∧ Same (inP b) M M' := by
  obtain ⟨-, hp, hl1, hl6, ht, hpt, -, -, -⟩ := ho
  obtain ⟨j0, j1, j2, j3, j4⟩ := hj
  have h3 := w0.1
  have hd := pbl_le A p l
  have hy := w0.2.2.2.2.2.2.2.2.2.2.2.2.1
  have hc := w0.2.2.2.2.2.2.2.2.2.2.2.2.2
  have hh := w0.2.2.2.2.1 p (by omega)
  have e1 := k_posts (N := N) hP hR w0 hp (l := l) (by omega)
  have inb : ∀ k, k ≤ 5 → inP b (b + k) := fun k hk => ⟨by omega, by omega⟩
  have y0 := hR.2.2.2.2.2.2.2 0 (by omega)
  have y1 := hR.2.2.2.2.2.2.2 1 (by omega)
  have hv : ∀ x0 : Int32, ∀ v a0 a1 : Nat, nI (A (11 + p)) + x0 = nI v → nI (A 5) + (-x0) * nI (pbl A p l) = nI a0 → nI (A 6) + (-x0) * (2 : Int32) = nI a1 →
      ∃ M', fX4_carryOut_12 N Z b w x0 M = some ((), M') ∧ RelP M' b (doH A p v a0 a1) ∧ Same (inP b) M M' := by
    intro x0 v a0 a1 q1 q2 q3
    refine ⟨sI (sI (sI (sI M (b + 1) p (nI v)) (b + 5) 0 (nI a0)) (b + 5) 1 (nI a1)) b 1 (nI (A 4 + 1)), ?_, ?_, ?_⟩
    · have s0 := fun M => k_supply0 (N := N) (M := M) hP
      have s1 := fun M => k_supply1 (N := N) (M := M) hP
      obtain ⟨o1, o2, -, -, -, -, ⟨o4, o5, o6⟩, -⟩ := hP
      unfold fX4_carryOut_12
      rw [ck_t hJ, j0, if_pos (show nI 0 = 0 from rfl), ck_t o1, j1, j2, e1, bnd2_some, o2, bnd1_some, j1, k_at o5 (by omega) (by omega), bnd2_some, hR.2.2.1 _ (by omega), k_write o4 (by omega) (by omega), bnd2_some, s0, bnd2_some, s1, bnd2_some]
      unfold fX4_carryOut_128
      rw [ck_t hJ, sI_ne _ _ (show ¬ (b + 5 = b + 5 ∧ (1 : Nat) = 0) by omega), sI_ne _ _ (show ¬ (b + 5 = b + 1 ∧ (0 : Nat) = p) by omega), sI_ne _ _ (show ¬ (b + 5 = b + 1 ∧ (1 : Nat) = p) by omega), sI_ne _ _ (show ¬ (w = b + 5 ∧ (0 : Nat) = 1) by omega), sI_ne _ _ (show ¬ (w = b + 5 ∧ (0 : Nat) = 0) by omega), sI_ne _ _ (show ¬ (w = b + 1 ∧ (0 : Nat) = p) by omega), j0,
        if_neg (by decide), ck_t o1, sI_ne _ _ (show ¬ (b = b + 5 ∧ (1 : Nat) = 1) by omega), sI_ne _ _ (show ¬ (b = b + 5 ∧ (1 : Nat) = 0) by omega), sI_ne _ _ (show ¬ (b = b + 1 ∧ (1 : Nat) = p) by omega), y0, y1, hR.2.1, q1, q2, q3, nI_1]
    · exact (((hR.height (by omega) v).yard (k := 0) (by omega) a0).yard (k := 1) (by omega) a1).works (A 4 + 1)
    · exact (((Same.put (inb 1 (by omega))).trans (Same.put (inb 5 (by omega)))).trans (Same.put (inb 5 (by omega)))).trans (Same.put (inb 0 (by omega)))
  unfold fX4_carryOut doA
  rw [ck_t hJ, j4, if_pos (show (0 : Nat) = 0 from rfl)]
  cases tk with
  | true =>
    have := ht rfl rfl
    rw [if_neg (by decide)]
    refine hv (-1) _ _ _ ?_ ?_ ?_
    · exact add_neg (A (11 + p)) 1 (by omega)
    · rw [neg11_mul _ hd, nI_add]; rfl
    · exact nI_add (A 6) 2
  | false =>
    have := hpt rfl rfl
    rw [if_pos (by decide)]
    refine hv 1 _ _ _ ?_ ?_ ?_
    · exact nI_1 _
    · rw [neg1_mul _ hd]; exact add_neg _ _ (by omega)
    · exact add_neg (A 6) 2 (by omega)
/-- a piece -/
theorem k_carryS (hP : PlanAt Z b) (hJ : okO Z w 7 = true) (hw : w < b ∨ b + 5 < w) (hR : RelP M b A) (w0 : WF A c) {what p l cls : Nat} {tk : Bool} (hk : 2 ≤ what) (hj : JobR M w what p l cls tk) (ho : OkA A what p l cls tk) :
    ∃ M', fX4_carryOut N Z b w M = some ((), M') ∧ RelP M' b (doA A what p l cls tk) ∧ Same (inP b) M M' := by
  obtain ⟨hk5, hp, hl1, hl6, -, -, hh, hyd, hcl⟩ := ho
  obtain ⟨j0, j1, j2, j3, j4⟩ := hj
  have hk5 : what ≤ 5 := by omega
  have h3 := w0.1
  have hy := w0.2.2.2.2.2.2.2.2.2.2.2.2.1 what (by omega)
  have hc := w0.2.2.2.2.2.2.2.2.2.2.2.2.2
  have hs := (hh (by omega)).1
  have ev := k_levelsWith (N := N) hP hR hk hk5 (p := p) (by omega)
  have inb : ∀ k, k ≤ 5 → inP b (b + k) := fun k hk => ⟨by omega, by omega⟩
  have yk := hR.2.2.2.2.2.2.2 what (by omega)
  have hv : ∀ x0 : Int32, ∀ y : Nat, nI (A (5 + what)) + -x0 = nI y → (what = 2 → decide (0 < (if tk then 0 else cls)) = !decide (0 < A (21 + 7 * p + l))) →
      ∃ M', fX4_carryOut_12 N Z b w x0 M = some ((), M') ∧ RelP M' b (if what = 2 then doD A p l (if tk then 0 else cls) y else doS A what p l y) ∧ Same (inP b) M M' := by
    intro x0 y q1 q2
    have s0 := fun M => k_supply (N := N) (M := M) hP (k := what) (by omega)
    have lt : ∀ i n, i < n → n < 100 → inB (nI i) n = true := fun i n hi hn => by rw [i_inB (by omega)]; exact decide_eq_true hi
    by_cases k2 : what = 2
    · subst k2
      refine ⟨sI (sI (sI (sI M (b + 2) (20 + p) (nI (dm A p ^^^ 2 ^ l))) (b + 5) 2 (nI y)) (b + 3) (7 * p + l) (nI (if tk then 0 else cls))) b 1 (nI (A 4 + 1)), ?_, ?_, ?_⟩
      · obtain ⟨o1, -, o2, o3, -, -, -, ⟨o4, o5, o6⟩, ⟨o7, o8, o9⟩, -⟩ := hP
        have hm : mkS A 2 p = dm A p := rfl
        unfold fX4_carryOut_12
        rw [ck_t hJ, j0, if_neg (by decide), ck_t o1, j1, ev, bnd2_some, o2, bnd1_some, j0, j1, j2, bit_shl (by omega), hm, nI_xor, i_10, pk_mul, nI_add, k_write o4 (by omega) (by omega), bnd2_some, sI_ne _ _ (show ¬ (w = b + 2 ∧ (0 : Nat) = 2 * 10 + p) by omega), j0, s0, bnd2_some]
        unfold fX4_carryOut_128
        rw [ck_t hJ, sI_ne _ _ (show ¬ (w = b + 5 ∧ (0 : Nat) = 2) by omega), sI_ne _ _ (show ¬ (w = b + 2 ∧ (0 : Nat) = 2 * 10 + p) by omega), j0, if_pos (by decide), ck_t o1, o3, bnd1_some,
          sI_ne _ _ (show ¬ (w = b + 5 ∧ (4 : Nat) = 2) by omega), sI_ne _ _ (show ¬ (w = b + 2 ∧ (4 : Nat) = 2 * 10 + p) by omega), j4,
          sI_ne _ _ (show ¬ (w = b + 5 ∧ (1 : Nat) = 2) by omega), sI_ne _ _ (show ¬ (w = b + 2 ∧ (1 : Nat) = 2 * 10 + p) by omega), j1,
          sI_ne _ _ (show ¬ (w = b + 5 ∧ (2 : Nat) = 2) by omega), sI_ne _ _ (show ¬ (w = b + 2 ∧ (2 : Nat) = 2 * 10 + p) by omega), j2,
          sI_ne _ _ (show ¬ (w = b + 5 ∧ (3 : Nat) = 2) by omega), sI_ne _ _ (show ¬ (w = b + 2 ∧ (3 : Nat) = 2 * 10 + p) by omega), j3, sI_ne _ _ (show ¬ (b + 5 = b + 2 ∧ (2 : Nat) = 2 * 10 + p) by omega), yk, q1, i_7, pk_mul, nI_add]
        cases tk with
        | true =>
          rw [if_neg (by decide), show (0 : Int32) = nI 0 from rfl, k_write o7 (by omega) (by omega), bnd2_some, sI_ne _ _ (show ¬ (b = b + 3 ∧ (1 : Nat) = p * 7 + l) by omega), sI_ne _ _ (show ¬ (b = b + 5 ∧ (1 : Nat) = 2) by omega), sI_ne _ _ (show ¬ (b = b + 2 ∧ (1 : Nat) = 2 * 10 + p) by omega), hR.2.1, nI_1, Nat.mul_comm p 7]
          rfl
        | false =>
          rw [if_pos (by decide), k_write o7 (by omega) (by omega), bnd2_some, sI_ne _ _ (show ¬ (b = b + 3 ∧ (1 : Nat) = p * 7 + l) by omega), sI_ne _ _ (show ¬ (b = b + 5 ∧ (1 : Nat) = 2) by omega), sI_ne _ _ (show ¬ (b = b + 2 ∧ (1 : Nat) = 2 * 10 + p) by omega), hR.2.1, nI_1, Nat.mul_comm p 7]
          rfl
      · rw [if_pos rfl, sI_comm (a := b + 5) (a' := b + 3) (by omega), ← dm_toggle hl1 hl6 (q2 rfl)]
        exact ((hR.deck (by omega) (by omega) _).yard (k := 2) (by omega) y).works (A 4 + 1)
      · exact (((Same.put (inb 2 (by omega))).trans (Same.put (inb 5 (by omega)))).trans (Same.put (inb 3 (by omega)))).trans (Same.put (inb 0 (by omega)))
    · refine ⟨sI (sI (sI M (b + 2) (10 * what + p) (nI (A (rwB what + p) ^^^ 2 ^ l))) (b + 5) what (nI y)) b 1 (nI (A 4 + 1)), ?_, ?_, ?_⟩
      · obtain ⟨o1, -, o2, -, -, -, -, ⟨o4, o5, o6⟩, -⟩ := hP
        have hm : mkS A what p = A (rwB what + p) := by unfold mkS; rw [if_neg k2]
        unfold fX4_carryOut_12
        rw [ck_t hJ, j0, if_neg (by rw [i_0, i_eq (by omega) (by omega)]; omega), ck_t o1, j1, ev, bnd2_some, o2, bnd1_some, j0, j1, j2, bit_shl (by omega), hm, nI_xor, i_10, pk_mul, nI_add, Nat.mul_comm what 10, k_write o4 (by omega) (by omega), bnd2_some, sI_ne _ _ (show ¬ (w = b + 2 ∧ (0 : Nat) = 10 * what + p) by omega), j0, s0, bnd2_some]
        unfold fX4_carryOut_128
        rw [ck_t hJ, sI_ne _ _ (show ¬ (w = b + 5 ∧ (0 : Nat) = what) by omega), sI_ne _ _ (show ¬ (w = b + 2 ∧ (0 : Nat) = 10 * what + p) by omega), j0, if_neg (by rw [i_2, i_eq (by omega) (by omega)]; exact k2), ck_t o1, sI_ne _ _ (show ¬ (b + 5 = b + 2 ∧ what = 10 * what + p) by omega), yk, q1,
          sI_ne _ _ (show ¬ (b = b + 5 ∧ (1 : Nat) = what) by omega), sI_ne _ _ (show ¬ (b = b + 2 ∧ (1 : Nat) = 10 * what + p) by omega), hR.2.1, nI_1]
      · rw [if_neg k2]
        exact ((hR.set (by omega) hk5 (by omega) _).yard (k := what) (by omega) y).works (A 4 + 1)
      · exact ((Same.put (inb 2 (by omega))).trans (Same.put (inb 5 (by omega)))).trans (Same.put (inb 0 (by omega)))
  have hdk : what = 2 → aHas A 2 p l = decide (0 < A (21 + 7 * p + l)) := fun _ => by
    unfold aHas
    rw [show mkS A 2 p = dm A p from rfl, dm_bit A p hl1 hl6]
    simp [hl1, hl6]
  unfold fX4_carryOut doA
  rw [ck_t hJ, j4, if_neg (show ¬ what = 0 by omega)]
  cases tk with
  | true =>
    rw [if_neg (by decide)]
    have h := hv (-1) (A (5 + what) + 1) (nI_add _ 1) (fun k2 => by
      subst k2; rw [← hdk rfl, hs]; rfl)
    by_cases k2 : what = 2
    · rw [if_pos k2] at h ⊢; subst k2; exact h
    · rw [if_neg k2] at h ⊢; exact h
  | false =>
    have hy1 := hyd (by omega) rfl
    rw [if_pos (by decide)]
    have h := hv 1 (A (5 + what) - 1) (add_neg _ 1 hy1) (fun k2 => by
      have := (hcl k2 rfl).1
      subst k2; rw [← hdk rfl, hs]; simp; omega)
    by_cases k2 : what = 2
    · rw [if_pos k2] at h ⊢; subst k2; exact h
    · rw [if_neg k2] at h ⊢; exact h
theorem k_carryOut (hP : PlanAt Z b) (hJ : okO Z w 7 = true) (hw : w < b ∨ b + 5 < w) (hR : RelP M b A) (w0 : WF A c) {what p l cls : Nat} {tk : Bool} (hj : JobR M w what p l cls tk) (ho : OkA A what p l cls tk) :
    ∃ M', fX4_carryOut N Z b w M = some ((), M') ∧ RelP M' b (doA A what p l cls tk) ∧ Same (inP b) M M' := by
  rcases ho.1 with h | h
  · subst h; exact k_carryH hP hJ hw hR w0 hj ho
  · exact k_carryS hP hJ hw hR w0 h.1 hj ho
end KP5
