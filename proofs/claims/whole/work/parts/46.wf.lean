/-! ===== LAYER 3: work keeps the shape ===== -/
section KP6
variable {A : Row} {c p l v y y0 y1 k : Nat}
theorem WF.mono {c' : Nat} (w : WF A c) (h : c ≤ c') (h' : c' ≤ 1000000) : WF A c' := by
  obtain ⟨w1, w2, w3, w4, w5, w6, w7, w8, w9, w10, w11, w12, w13, w14⟩ := w
  exact ⟨w1, w2, w3, w4, w5, w6, w7, w8, w9, w10, w11, by omega, fun k hk => by have := w13 k hk; omega, h'⟩
theorem doH_e {i : Nat} (h4 : i ≠ 4) (h5 : i ≠ 5) (h6 : i ≠ 6) (hp : i ≠ 11 + p) : doH A p v y0 y1 i = A i := by
  unfold doH; rw [setA_ne h4, setA_ne h6, setA_ne h5, setA_ne hp]
theorem doH_h : doH A p v y0 y1 (11 + p) = v := by
  unfold doH; rw [setA_ne (by omega), setA_ne (by omega), setA_ne (by omega), setA_eq]
theorem doH_4 : doH A p v y0 y1 4 = A 4 + 1 := setA_eq
theorem doH_6 : doH A p v y0 y1 6 = y1 := by unfold doH; rw [setA_ne (by omega), setA_eq]
theorem doH_5 : doH A p v y0 y1 5 = y0 := by unfold doH; rw [setA_ne (by omega), setA_ne (by omega), setA_eq]
theorem doH_hh {i : Nat} : doH A p v y0 y1 (11 + i) = if i = p then v else A (11 + i) := by
  by_cases h : i = p
  · subst h; rw [doH_h, if_pos rfl]
  · rw [doH_e (by omega) (by omega) (by omega) (by omega), if_neg h]
theorem aL_congr {B : Row} (h : B 0 = A 0) (i : Nat) : aL B i = aL A i := by unfold aL; rw [h]
theorem aR_congr {B : Row} (h : B 0 = A 0) (i : Nat) : aR B i = aR A i := by unfold aR; rw [h]
theorem doH_aPH {i : Nat} : aPH (doH A p v y0 y1) i = max (if aL A i = p then v else A (11 + aL A i)) (if i = p then v else A (11 + i)) := by
  unfold aPH
  rw [doH_hh, doH_hh, aL_congr (doH_e (by omega) (by omega) (by omega) (by omega))]
theorem doH_wf (w : WF A c) (hc : c + 1 ≤ 1000000) (hp : p < A 0) (hv : v ≤ 6) (h0 : y0 ≤ 1000 + 2 * (c + 1)) (h1 : y1 ≤ 1000 + 2 * (c + 1)) (hD : ∀ l, l < 7 → v < l → A (21 + 7 * p + l) = 0)
    (hB : ∀ l, (A (91 + p)).testBit l = true → l ≤ v) (hL : ∀ l, (A (101 + p)).testBit l = true → l ≤ v) (hT : ∀ i, i < A 0 → ∀ l, (A (111 + i)).testBit l = true → l ≤ aPH (doH A p v y0 y1) i) : WF (doH A p v y0 y1) (c + 1) := by
  obtain ⟨w1, w2, w3, w4, w5, w6, w7, w8, w9, w10, w11, w12, w13, w14⟩ := w
  have e : ∀ i, i < 4 ∨ 21 ≤ i → doH A p v y0 y1 i = A i := fun i hi => doH_e (by omega) (by omega) (by omega) (by omega)
  refine ⟨?_, ?_, ?_, ?_, ?_, ?_, ?_, ?_, ?_, ?_, ?_, ?_, ?_, hc⟩
  · rw [e 0 (by omega)]; exact w1
  · rw [e 1 (by omega)]; exact w2
  · rw [e 2 (by omega)]; exact w3
  · rw [e 3 (by omega)]; exact w4
  · intro i hi; rw [doH_hh]; split
    · exact hv
    · exact w5 i hi
  · intro i hi hi2; rw [e 0 (by omega)] at hi; rw [doH_hh, if_neg (by omega)]; exact w6 i hi hi2
  · intro i l hi hl; rw [e _ (by omega)]; exact w7 i l hi hl
  · intro i l hi hl hq
    rw [e _ (by omega)]
    rw [doH_hh] at hq
    by_cases q : i = p
    · subst q
      rw [if_pos rfl] at hq
      rcases hq with hq | hq
      · exact w8 i l hi hl (Or.inl hq)
      · exact hD l hl hq
    · rw [if_neg q] at hq; exact w8 i l hi hl hq
  · intro i hi
    rw [e _ (by omega)]
    refine ⟨(w9 i hi).1, fun l hl => ⟨((w9 i hi).2 l hl).1, ?_⟩⟩
    rw [doH_hh]
    by_cases q : i = p
    · subst q; rw [if_pos rfl]; exact hB l hl
    · rw [if_neg q]; exact ((w9 i hi).2 l hl).2
  · intro i hi
    rw [e _ (by omega)]
    refine ⟨(w10 i hi).1, fun l hl => ⟨((w10 i hi).2 l hl).1, ?_⟩⟩
    rw [doH_hh]
    by_cases q : i = p
    · subst q; rw [if_pos rfl]; exact hL l hl
    · rw [if_neg q]; exact ((w10 i hi).2 l hl).2
  · intro i hi
    rw [e _ (by omega), e 0 (by omega)]
    refine ⟨(w11 i hi).1, fun l hl => ?_⟩
    have h2 := (w11 i hi).2 l hl
    exact ⟨h2.1, hT i h2.2.2 l hl, h2.2.2⟩
  · rw [doH_4]; omega
  · intro k hk
    by_cases q0 : k = 0
    · subst q0; rw [show 5 + 0 = 5 from rfl, doH_5]; exact h0
    by_cases q1 : k = 1
    · subst q1; rw [show 5 + 1 = 6 from rfl, doH_6]; exact h1
    · rw [doH_e (by omega) (by omega) (by omega) (by omega)]; have := w13 k hk; omega
theorem doD_e {i : Nat} (h4 : i ≠ 4) (h7 : i ≠ 7) (hp : i ≠ 21 + 7 * p + l) : doD A p l v y i = A i := by
  unfold doD; rw [setA_ne h4, setA_ne h7, setA_ne hp]
theorem doD_d : doD A p l v y (21 + 7 * p + l) = v := by
  unfold doD; rw [setA_ne (by omega), setA_ne (by omega), setA_eq]
theorem doD_wf (w : WF A c) (hc : c + 1 ≤ 1000000) (hp : p < A 0) (hl : l < 7) (hv : v ≤ 4) (hvl : v = 0 ∨ (1 ≤ l ∧ l ≤ A (11 + p))) (h0 : y ≤ 1000 + 2 * (c + 1)) : WF (doD A p l v y) (c + 1) := by
  obtain ⟨w1, w2, w3, w4, w5, w6, w7, w8, w9, w10, w11, w12, w13, w14⟩ := w
  have e : ∀ i, i ≠ 4 → i ≠ 7 → (i < 21 ∨ 91 ≤ i) → doD A p l v y i = A i := fun i h4 h7 hi => doD_e h4 h7 (by omega)
  refine ⟨?_, ?_, ?_, ?_, ?_, ?_, ?_, ?_, ?_, ?_, ?_, ?_, ?_, hc⟩
  · rw [e 0 (by omega) (by omega) (by omega)]; exact w1
  · rw [e 1 (by omega) (by omega) (by omega)]; exact w2
  · rw [e 2 (by omega) (by omega) (by omega)]; exact w3
  · rw [e 3 (by omega) (by omega) (by omega)]; exact w4
  · intro i hi; rw [e _ (by omega) (by omega) (by omega)]; exact w5 i hi
  · intro i hi hi2; rw [e 0 (by omega) (by omega) (by omega)] at hi; rw [e _ (by omega) (by omega) (by omega)]; exact w6 i hi hi2
  · intro i l' hi hl'
    by_cases q : i = p ∧ l' = l
    · obtain ⟨rfl, rfl⟩ := q; rw [doD_d]; exact hv
    · rw [doD_e (by omega) (by omega) (by omega)]; exact w7 i l' hi hl'
  · intro i l' hi hl' hq
    rw [e (11 + i) (by omega) (by omega) (by omega)] at hq
    by_cases q : i = p ∧ l' = l
    · obtain ⟨rfl, rfl⟩ := q; rw [doD_d]; omega
    · rw [doD_e (by omega) (by omega) (by omega)]; exact w8 i l' hi hl' hq
  · intro i hi; rw [e (91 + i) (by omega) (by omega) (by omega), e (11 + i) (by omega) (by omega) (by omega)]; exact w9 i hi
  · intro i hi; rw [e (101 + i) (by omega) (by omega) (by omega), e (11 + i) (by omega) (by omega) (by omega)]; exact w10 i hi
  · intro i hi
    have hq : aPH (doD A p l v y) i = aPH A i := by
      have hq0 : doD A p l v y 0 = A 0 := e 0 (by omega) (by omega) (by omega)
      have hqL : aL A i < 10 := by unfold aL; split <;> omega
      unfold aPH; rw [aL_congr hq0, e (11 + aL A i) (by omega) (by omega) (by omega), e (11 + i) (by omega) (by omega) (by omega)]
    rw [e (111 + i) (by omega) (by omega) (by omega), hq, e 0 (by omega) (by omega) (by omega)]; exact w11 i hi
  · rw [show doD A p l v y 4 = A 4 + 1 from setA_eq]; omega
  · intro k hk
    by_cases q : k = 2
    · subst q; rw [show doD A p l v y (5 + 2) = y by unfold doD; rw [setA_ne (by omega), setA_eq]]; exact h0
    · rw [e _ (by omega) (by omega) (by omega)]; have := w13 k hk; omega
theorem doS_e {i : Nat} (h4 : i ≠ 4) (hk : i ≠ 5 + k) (hp : i ≠ rwB k + p) : doS A k p l y i = A i := by
  unfold doS; rw [setA_ne h4, setA_ne hk, setA_ne hp]
theorem doS_s (h3 : 3 ≤ k) (h5 : k ≤ 5) : doS A k p l y (rwB k + p) = A (rwB k + p) ^^^ 2 ^ l := by
  have h := rwB_cases h3 h5
  unfold doS; rw [setA_ne (by omega), setA_ne (by omega), setA_eq]
theorem xor_lt128 {m : Nat} (hm : m < 128) (hl : l ≤ 6) : m ^^^ 2 ^ l < 128 := Nat.xor_lt_two_pow (n := 7) hm (Nat.pow_lt_pow_right (by decide) (by omega))
theorem xor_bits {m l' : Nat} (h : (m ^^^ 2 ^ l).testBit l' = true) : l' = l ∨ m.testBit l' = true := by
  rw [testBit_x] at h
  by_cases q : l' = l
  · exact Or.inl q
  · right
    rw [show decide (l = l') = false from decide_eq_false (fun e => q e.symm)] at h
    simpa using h
theorem doS_wf (w : WF A c) (hc : c + 1 ≤ 1000000) (hp : p < A 0) (h3 : 3 ≤ k) (h5 : k ≤ 5) (hl1 : 1 ≤ l) (hl6 : l ≤ 6) (hh : l ≤ hFor A k p) (h0 : y ≤ 1000 + 2 * (c + 1)) : WF (doS A k p l y) (c + 1) := by
  have hr := rwB_cases h3 h5
  obtain ⟨w1, w2, w3, w4, w5, w6, w7, w8, w9, w10, w11, w12, w13, w14⟩ := w
  have e : ∀ i, i ≠ 4 → i ≠ 5 + k → i < 91 → doS A k p l y i = A i := fun i h4 h7 hi => doS_e h4 h7 (by omega)
  have hq0 : doS A k p l y 0 = A 0 := e 0 (by omega) (by omega) (by omega)
  have hq : ∀ i, i < 10 → aPH (doS A k p l y) i = aPH A i := fun i hi => by
    have hqL : aL A i < 10 := by unfold aL; split <;> omega
    unfold aPH; rw [aL_congr hq0, e (11 + aL A i) (by omega) (by omega) (by omega), e (11 + i) (by omega) (by omega) (by omega)]
  have hs := doS_s (A := A) (p := p) (l := l) (y := y) h3 h5
  refine ⟨?_, ?_, ?_, ?_, ?_, ?_, ?_, ?_, ?_, ?_, ?_, ?_, ?_, hc⟩
  · rw [hq0]; exact w1
  · rw [e 1 (by omega) (by omega) (by omega)]; exact w2
  · rw [e 2 (by omega) (by omega) (by omega)]; exact w3
  · rw [e 3 (by omega) (by omega) (by omega)]; exact w4
  · intro i hi; rw [e _ (by omega) (by omega) (by omega)]; exact w5 i hi
  · intro i hi hi2; rw [hq0] at hi; rw [e _ (by omega) (by omega) (by omega)]; exact w6 i hi hi2
  · intro i l' hi hl'; rw [e _ (by omega) (by omega) (by omega)]; exact w7 i l' hi hl'
  · intro i l' hi hl' hx
    rw [e (11 + i) (by omega) (by omega) (by omega)] at hx
    rw [e _ (by omega) (by omega) (by omega)]; exact w8 i l' hi hl' hx
  · intro i hi
    rw [e (11 + i) (by omega) (by omega) (by omega)]
    by_cases q : 91 + i = rwB k + p
    · rw [q, hs]
      obtain ⟨a1, rfl⟩ : k = 3 ∧ i = p := by omega
      subst a1
      have hi' := w9 i hi
      rw [show rwB 3 = 91 from rfl]
      refine ⟨xor_lt128 hi'.1 hl6, fun l' h' => ?_⟩
      rcases xor_bits h' with rfl | h'
      · exact ⟨hl1, hh⟩
      · exact hi'.2 l' h'
    · rw [doS_e (by omega) (by omega) q]; exact w9 i hi
  · intro i hi
    rw [e (11 + i) (by omega) (by omega) (by omega)]
    by_cases q : 101 + i = rwB k + p
    · rw [q, hs]
      obtain ⟨a1, rfl⟩ : k = 5 ∧ i = p := by omega
      subst a1
      have hi' := w10 i hi
      rw [show rwB 5 = 101 from rfl]
      refine ⟨xor_lt128 hi'.1 hl6, fun l' h' => ?_⟩
      rcases xor_bits h' with rfl | h'
      · exact ⟨hl1, hh⟩
      · exact hi'.2 l' h'
    · rw [doS_e (by omega) (by omega) q]; exact w10 i hi
  · intro i hi
    rw [hq i hi, hq0]
    by_cases q : 111 + i = rwB k + p
    · rw [q, hs]
      obtain ⟨a1, rfl⟩ : k = 4 ∧ i = p := by omega
      subst a1
      have hi' := w11 i hi
      rw [show rwB 4 = 111 from rfl]
      refine ⟨xor_lt128 hi'.1 hl6, fun l' h' => ?_⟩
      rcases xor_bits h' with rfl | h'
      · exact ⟨hl1, hh, hp⟩
      · exact hi'.2 l' h'
    · rw [doS_e (by omega) (by omega) q]; exact w11 i hi
  · rw [show doS A k p l y 4 = A 4 + 1 from setA_eq]; omega
  · intro q hq1
    by_cases q2 : q = k
    · subst q2; rw [show doS A q p l y (5 + q) = y by unfold doS; rw [setA_ne (by omega), setA_eq]]; exact h0
    · rw [e _ (by omega) (by omega) (by omega)]; have := w13 q hq1; omega
theorem aL_inv {i : Nat} (h4 : 4 ≤ A 0) (hi : i < A 0) (hp : p < A 0) (h : aL A i = p) : i = aR A p := by
  unfold aL at h; unfold aR
  split at h <;> split <;> omega
theorem aL_ne (h4 : 4 ≤ A 0) (hp : p < A 0) : aL A p ≠ p := by unfold aL; split <;> omega
theorem aR_ne (h4 : 4 ≤ A 0) (hp : p < A 0) : aR A p ≠ p := by unfold aR; split <;> omega
theorem aHas_true {q : Nat} (h1 : 1 ≤ l) (h6 : l ≤ 6) (h : (A (rwB k + q)).testBit l = true) (hk : k ≠ 2) : aHas A k q l = true := by
  unfold aHas mkS; rw [if_neg hk, h]; simp [h1, h6]
theorem okH_wf {cls : Nat} {tk : Bool} (w : WF A c) (hc : c + 1 ≤ 1000000) (ho : OkA A 0 p l cls tk) (h0 : y0 ≤ 1000 + 2 * (c + 1)) (h1 : y1 ≤ 1000 + 2 * (c + 1)) : WF (doH A p (if tk then A (11 + p) - 1 else A (11 + p) + 1) y0 y1) (c + 1) := by
  obtain ⟨-, hp, hl1, hl6, ht, hpt, -, -, -⟩ := ho
  have h4 := w.1
  have hh6 := w.2.2.2.2.1 p (by omega)
  have w8 := w.2.2.2.2.2.2.2.1
  have w9 := w.2.2.2.2.2.2.2.2.1
  have w10 := w.2.2.2.2.2.2.2.2.2.1
  have w11 := w.2.2.2.2.2.2.2.2.2.2.1
  cases tk with
  | false =>
    have h5 := hpt rfl rfl
    simp only [Bool.false_eq_true, if_false]
    refine doH_wf w hc hp (by omega) h0 h1 (fun l hl hv => w8 p l (by omega) hl (Or.inr (by omega))) (fun l hl => by have := ((w9 p (by omega)).2 l hl).2; omega) (fun l hl => by have := ((w10 p (by omega)).2 l hl).2; omega) (fun i hi l hl => ?_)
    have := ((w11 i (by omega)).2 l hl).2.1
    rw [doH_aPH]
    unfold aPH at this
    by_cases a1 : aL A i = p
    · rw [a1] at this; rw [if_pos a1]
      by_cases a2 : i = p
      · rw [a2] at this; rw [if_pos a2]; omega
      · rw [if_neg a2]; omega
    · rw [if_neg a1]
      by_cases a2 : i = p
      · rw [a2] at this ⊢; rw [if_pos rfl]; omega
      · rw [if_neg a2]; omega
  | true =>
    obtain ⟨h5, hD, hB, hL, hT⟩ := ht rfl rfl
    simp only [if_true]
    refine doH_wf w hc hp (by omega) h0 h1 (fun l' hl hv => ?_) (fun l' hl => ?_) (fun l' hl => ?_) (fun i hi l' hl => ?_)
    · by_cases e : l' = l
      · rw [e]; exact hD
      · exact w8 p l' (by omega) hl (Or.inr (by omega))
    · have := (w9 p (by omega)).2 l' hl
      by_cases e : l' = l
      · subst e; rw [aHas_true (k := 3) hl1 hl6 hl (by omega)] at hB; cases hB
      · omega
    · have := (w10 p (by omega)).2 l' hl
      by_cases e : l' = l
      · subst e; rw [aHas_true (k := 5) hl1 hl6 hl (by omega)] at hL; cases hL
      · omega
    · have h7 := (w11 i (by omega)).2 l' hl
      have h8 := h7.2.1
      rw [doH_aPH]
      unfold aPH at h8
      have n1 := aL_ne h4.1 hp
      by_cases a2 : i = p
      · subst a2
        rw [if_neg n1, if_pos rfl]
        by_cases e : l' ≤ max (A (11 + aL A i)) (A (11 + i) - 1)
        · exact e
        · exfalso
          have e1 : l' = l := by omega
          subst e1
          have hx := aHas_true (k := 4) hl1 hl6 hl (by omega)
          have hy : A (11 + aL A i) < l' := by omega
          unfold tbl at hT
          rw [hx] at hT
          simp [hy] at hT
      · rw [if_neg a2]
        by_cases a1 : aL A i = p
        · rw [if_pos a1]
          rw [a1] at h8
          by_cases e : l' ≤ max (A (11 + p) - 1) (A (11 + i))
          · exact e
          · exfalso
            have e1 : l' = l := by omega
            subst e1
            have hx := aHas_true (k := 4) hl1 hl6 hl (by omega)
            have hir := aL_inv h4.1 hi hp a1
            have hy : A (11 + i) < l' := by omega
            unfold tbl at hT
            rw [← hir, hx] at hT
            simp [hy] at hT
        · rw [if_neg a1]; omega
theorem doA_wf {what cls : Nat} {tk : Bool} (w : WF A c) (hc : c + 1 ≤ 1000000) (ho : OkA A what p l cls tk) : WF (doA A what p l cls tk) (c + 1) := by
  obtain ⟨hw, hp, hl1, hl6, ht, hpt, hh, hyd, hcl⟩ := ho
  have h4 := w.1
  have hy := w.2.2.2.2.2.2.2.2.2.2.2.2.1
  have hd := pbl_le A p l
  unfold doA
  by_cases q0 : what = 0
  · subst q0
    rw [if_pos rfl]
    have y0 : A 5 ≤ 1000 + 2 * c := hy 0 (by omega)
    have y1 : A 6 ≤ 1000 + 2 * c := hy 1 (by omega)
    refine okH_wf w hc ⟨hw, hp, hl1, hl6, ht, hpt, hh, hyd, hcl⟩ ?_ ?_
    · cases tk with
      | true => show A 5 + pbl A p l ≤ 1000 + 2 * (c + 1); omega
      | false => show A 5 - pbl A p l ≤ 1000 + 2 * (c + 1); omega
    · cases tk with
      | true => show A 6 + 2 ≤ 1000 + 2 * (c + 1); omega
      | false => show A 6 - 2 ≤ 1000 + 2 * (c + 1); omega
  · rw [if_neg q0]
    have hs := hh q0
    by_cases q2 : what = 2
    · subst q2
      rw [if_pos rfl]
      have y2 : A 7 ≤ 1000 + 2 * c := hy 2 (by omega)
      have hf : hFor A 2 p = A (11 + p) := rfl
      refine doD_wf w hc hp (by omega) ?_ ?_ ?_
      · cases tk with
        | true => exact Nat.zero_le _
        | false => exact (hcl rfl rfl).2
      · exact Or.inr ⟨hl1, by omega⟩
      · cases tk with
        | true => show A 7 + 1 ≤ 1000 + 2 * (c + 1); omega
        | false => show A 7 - 1 ≤ 1000 + 2 * (c + 1); omega
    · rw [if_neg q2]
      have yk := hy what (by omega)
      refine doS_wf w hc hp (by omega) (by omega) hl1 hl6 hs.2 ?_
      cases tk with
      | true => show A (5 + what) + 1 ≤ 1000 + 2 * (c + 1); omega
      | false => show A (5 + what) - 1 ≤ 1000 + 2 * (c + 1); omega
end KP6
