/-! ===== LAYER 3: the class's plan: work that is carried out ===== -/
def setA (A : Row) (k v : Nat) : Row := fun i => if i = k then v else A i
theorem setA_eq {A : Row} {k v : Nat} : setA A k v k = v := if_pos rfl
theorem setA_ne {A : Row} {k v i : Nat} (h : i ≠ k) : setA A k v i = A i := if_neg h
def pbl (A : Row) (p l : Nat) : Nat := (if A (11 + aL A p) < l then 1 else 0) + (if A (11 + aR A p) < l then 1 else 0)
theorem pbl_le (A : Row) (p l : Nat) : pbl A p l ≤ 2 := by unfold pbl; split <;> split <;> omega
def tbl (A : Row) (p l : Nat) : Bool := (decide (A (11 + aL A p) < l) && aHas A 4 p l) || (decide (A (11 + aR A p) < l) && aHas A 4 (aR A p) l)
def hFor (A : Row) (what p : Nat) : Nat := if what = 4 then aPH A p else A (11 + p)
def doH (A : Row) (p v y0 y1 : Nat) : Row := setA (setA (setA (setA A (11 + p) v) 5 y0) 6 y1) 4 (A 4 + 1)
def doD (A : Row) (p l v y : Nat) : Row := setA (setA (setA A (21 + 7 * p + l) v) 7 y) 4 (A 4 + 1)
def doS (A : Row) (k p l y : Nat) : Row := setA (setA (setA A (rwB k + p) (A (rwB k + p) ^^^ 2 ^ l)) (5 + k) y) 4 (A 4 + 1)
def doA (A : Row) (what p l cls : Nat) (tk : Bool) : Row :=
  if what = 0 then doH A p (if tk then A (11 + p) - 1 else A (11 + p) + 1) (if tk then A 5 + pbl A p l else A 5 - pbl A p l) (if tk then A 6 + 2 else A 6 - 2)
  else if what = 2 then doD A p l (if tk then 0 else cls) (if tk then A 7 + 1 else A 7 - 1)
  else doS A what p l (if tk then A (5 + what) + 1 else A (5 + what) - 1)
/-- what a work that is not refused has -/
def OkA (A : Row) (what p l cls : Nat) (tk : Bool) : Prop := (what = 0 ∨ (2 ≤ what ∧ what ≤ 5)) ∧ p < A 0 ∧ 1 ≤ l ∧ l ≤ 6 ∧
  (what = 0 → tk = true → l = A (11 + p) ∧ A (21 + 7 * p + l) = 0 ∧ aHas A 3 p l = false ∧ aHas A 5 p l = false ∧ tbl A p l = false) ∧
  (what = 0 → tk = false → l = A (11 + p) + 1 ∧ pbl A p l ≤ A 5 ∧ 2 ≤ A 6) ∧
  (what ≠ 0 → aHas A what p l = tk ∧ l ≤ hFor A what p) ∧ (what ≠ 0 → tk = false → 1 ≤ A (5 + what)) ∧ (what = 2 → tk = false → 1 ≤ cls ∧ cls ≤ 4)
theorem sI_comm {M : mM} {a j a' j' : Nat} {v v' : Int32} (h : ¬ (a = a' ∧ j = j')) : sI (sI M a j v) a' j' v' = sI (sI M a' j' v') a j v := by
  unfold sI
  refine Prod.ext ?_ rfl
  funext x y
  show (if x = a' ∧ y = j' then v' else if x = a ∧ y = j then v else M.1 x y) = if x = a ∧ y = j then v else if x = a' ∧ y = j' then v' else M.1 x y
  by_cases h1 : x = a' ∧ y = j'
  · rw [if_pos h1, if_neg (fun q => h ⟨q.1.symm.trans h1.1, q.2.symm.trans h1.2⟩), if_pos h1]
  · rw [if_neg h1, if_neg h1]
theorem dm_setne {A : Row} {k v p : Nat} (h : ∀ l, 1 ≤ l → l ≤ 6 → 21 + 7 * p + l ≠ k) : dm (setA A k v) p = dm A p := by
  unfold dm
  rw [setA_ne (h 1 (by omega) (by omega)), setA_ne (h 2 (by omega) (by omega)), setA_ne (h 3 (by omega) (by omega)), setA_ne (h 4 (by omega) (by omega)), setA_ne (h 5 (by omega) (by omega)), setA_ne (h 6 (by omega) (by omega))]
theorem mkS_setne {A : Row} {k v q i : Nat} (hk : k < 21) : mkS (setA A k v) q i = mkS A q i := by
  unfold mkS rwB
  split
  · exact dm_setne (fun l _ _ => by omega)
  · exact setA_ne (by split <;> (try split) <;> omega)
theorem dmB_x : (∀ b1 b2 b3 b4 b5 b6 : Bool, dmB (!b1) b2 b3 b4 b5 b6 = dmB b1 b2 b3 b4 b5 b6 ^^^ 2 ^ 1) ∧ (∀ b1 b2 b3 b4 b5 b6 : Bool, dmB b1 (!b2) b3 b4 b5 b6 = dmB b1 b2 b3 b4 b5 b6 ^^^ 2 ^ 2) ∧ (∀ b1 b2 b3 b4 b5 b6 : Bool, dmB b1 b2 (!b3) b4 b5 b6 = dmB b1 b2 b3 b4 b5 b6 ^^^ 2 ^ 3) ∧
    (∀ b1 b2 b3 b4 b5 b6 : Bool, dmB b1 b2 b3 (!b4) b5 b6 = dmB b1 b2 b3 b4 b5 b6 ^^^ 2 ^ 4) ∧ (∀ b1 b2 b3 b4 b5 b6 : Bool, dmB b1 b2 b3 b4 (!b5) b6 = dmB b1 b2 b3 b4 b5 b6 ^^^ 2 ^ 5) ∧ (∀ b1 b2 b3 b4 b5 b6 : Bool, dmB b1 b2 b3 b4 b5 (!b6) = dmB b1 b2 b3 b4 b5 b6 ^^^ 2 ^ 6) := by decide
theorem dm_toggle {A : Row} {p l v : Nat} (h1 : 1 ≤ l) (h6 : l ≤ 6) (hv : decide (0 < v) = !decide (0 < A (21 + 7 * p + l))) : dm (setA A (21 + 7 * p + l) v) p = dm A p ^^^ 2 ^ l := by
  obtain ⟨x1, x2, x3, x4, x5, x6⟩ := dmB_x
  have e : ∀ l', l' ≠ l → setA A (21 + 7 * p + l) v (21 + 7 * p + l') = A (21 + 7 * p + l') := fun l' h => setA_ne (by omega)
  have e0 : setA A (21 + 7 * p + l) v (21 + 7 * p + l) = v := setA_eq
  unfold dm
  rcases (show l = 1 ∨ l = 2 ∨ l = 3 ∨ l = 4 ∨ l = 5 ∨ l = 6 by omega) with rfl | rfl | rfl | rfl | rfl | rfl
  · rw [e0, hv, e 2 (by omega), e 3 (by omega), e 4 (by omega), e 5 (by omega), e 6 (by omega)]; exact x1 _ _ _ _ _ _
  · rw [e0, hv, e 1 (by omega), e 3 (by omega), e 4 (by omega), e 5 (by omega), e 6 (by omega)]; exact x2 _ _ _ _ _ _
  · rw [e0, hv, e 1 (by omega), e 2 (by omega), e 4 (by omega), e 5 (by omega), e 6 (by omega)]; exact x3 _ _ _ _ _ _
  · rw [e0, hv, e 1 (by omega), e 2 (by omega), e 3 (by omega), e 5 (by omega), e 6 (by omega)]; exact x4 _ _ _ _ _ _
  · rw [e0, hv, e 1 (by omega), e 2 (by omega), e 3 (by omega), e 4 (by omega), e 6 (by omega)]; exact x5 _ _ _ _ _ _
  · rw [e0, hv, e 1 (by omega), e 2 (by omega), e 3 (by omega), e 4 (by omega), e 5 (by omega)]; exact x6 _ _ _ _ _ _
theorem rwB_cases {k : Nat} (h3 : 3 ≤ k) (h5 : k ≤ 5) : rwB k = 91 ∧ k = 3 ∨ rwB k = 111 ∧ k = 4 ∨ rwB k = 101 ∧ k = 5 := by
  unfold rwB
  rcases (show k = 3 ∨ k = 4 ∨ k = 5 by omega) with rfl | rfl | rfl <;> simp
section KP4
variable {N : Nat} {Z : mZ} {M : mM} {b w : Nat} {A : Row} {c : Nat}
theorem RelP.works (h : RelP M b A) (v : Nat) : RelP (sI M b 1 (nI v)) b (setA A 4 v) := by
  obtain ⟨h1, h2, h3, h4, h5, h6, h7, h8⟩ := h
  refine ⟨?_, ?_, ?_, ?_, ?_, ?_, ?_, ?_⟩
  · rw [sI_ne _ _ (by omega), setA_ne (by omega)]; exact h1
  · rw [sI_same, setA_eq]
  · intro i hi; rw [sI_ne _ _ (by omega), setA_ne (by omega)]; exact h3 i hi
  · intro k p a1 a2 a3; rw [sI_ne _ _ (by omega), mkS_setne (by omega)]; exact h4 k p a1 a2 a3
  · intro i hi; rw [sI_ne _ _ (by omega)]; exact h5 i hi
  · intro i hi; rw [sI_ne _ _ (by omega), setA_ne (by omega)]; exact h6 i hi
  · intro i hi; rw [sI_ne _ _ (by omega), setA_ne (by omega)]; exact h7 i hi
  · intro i hi; rw [sI_ne _ _ (by omega), setA_ne (by omega)]; exact h8 i hi
theorem RelP.height (h : RelP M b A) {p : Nat} (hp : p < 10) (v : Nat) : RelP (sI M (b + 1) p (nI v)) b (setA A (11 + p) v) := by
  obtain ⟨h1, h2, h3, h4, h5, h6, h7, h8⟩ := h
  refine ⟨?_, ?_, ?_, ?_, ?_, ?_, ?_, ?_⟩
  · rw [sI_ne _ _ (by omega), setA_ne (by omega)]; exact h1
  · rw [sI_ne _ _ (by omega), setA_ne (by omega)]; exact h2
  · intro i hi
    by_cases e : i = p
    · subst e; rw [sI_same, setA_eq]
    · rw [sI_ne _ _ (by omega), setA_ne (by omega)]; exact h3 i hi
  · intro k q a1 a2 a3; rw [sI_ne _ _ (by omega), mkS_setne (by omega)]; exact h4 k q a1 a2 a3
  · intro i hi; rw [sI_ne _ _ (by omega)]; exact h5 i hi
  · intro i hi; rw [sI_ne _ _ (by omega), setA_ne (by omega)]; exact h6 i hi
  · intro i hi; rw [sI_ne _ _ (by omega), setA_ne (by omega)]; exact h7 i hi
  · intro i hi; rw [sI_ne _ _ (by omega), setA_ne (by omega)]; exact h8 i hi
theorem RelP.rule (h : RelP M b A) {k : Nat} (hk : k < 3) (v : Nat) : RelP (sI M (b + 4) k (nI v)) b (setA A (1 + k) v) := by
  obtain ⟨h1, h2, h3, h4, h5, h6, h7, h8⟩ := h
  refine ⟨?_, ?_, ?_, ?_, ?_, ?_, ?_, ?_⟩
  · rw [sI_ne _ _ (by omega), setA_ne (by omega)]; exact h1
  · rw [sI_ne _ _ (by omega), setA_ne (by omega)]; exact h2
  · intro i hi; rw [sI_ne _ _ (by omega), setA_ne (by omega)]; exact h3 i hi
  · intro k q a1 a2 a3; rw [sI_ne _ _ (by omega), mkS_setne (by omega)]; exact h4 k q a1 a2 a3
  · intro i hi; rw [sI_ne _ _ (by omega)]; exact h5 i hi
  · intro i hi; rw [sI_ne _ _ (by omega), setA_ne (by omega)]; exact h6 i hi
  · intro i hi
    by_cases e : i = k
    · subst e; rw [sI_same, setA_eq]
    · rw [sI_ne _ _ (by omega), setA_ne (by omega)]; exact h7 i hi
  · intro i hi; rw [sI_ne _ _ (by omega), setA_ne (by omega)]; exact h8 i hi
theorem RelP.yard (h : RelP M b A) {k : Nat} (hk : k < 6) (v : Nat) : RelP (sI M (b + 5) k (nI v)) b (setA A (5 + k) v) := by
  obtain ⟨h1, h2, h3, h4, h5, h6, h7, h8⟩ := h
  refine ⟨?_, ?_, ?_, ?_, ?_, ?_, ?_, ?_⟩
  · rw [sI_ne _ _ (by omega), setA_ne (by omega)]; exact h1
  · rw [sI_ne _ _ (by omega), setA_ne (by omega)]; exact h2
  · intro i hi; rw [sI_ne _ _ (by omega), setA_ne (by omega)]; exact h3 i hi
  · intro k q a1 a2 a3; rw [sI_ne _ _ (by omega), mkS_setne (by omega)]; exact h4 k q a1 a2 a3
  · intro i hi; rw [sI_ne _ _ (by omega)]; exact h5 i hi
  · intro i hi; rw [sI_ne _ _ (by omega), setA_ne (by omega)]; exact h6 i hi
  · intro i hi; rw [sI_ne _ _ (by omega), setA_ne (by omega)]; exact h7 i hi
  · intro i hi
    by_cases e : i = k
    · subst e; rw [sI_same, setA_eq]
    · rw [sI_ne _ _ (by omega), setA_ne (by omega)]; exact h8 i hi
theorem RelP.set (h : RelP M b A) {k p : Nat} (hk : 3 ≤ k) (hk5 : k ≤ 5) (hp : p < 10) (v : Nat) : RelP (sI M (b + 2) (10 * k + p) (nI v)) b (setA A (rwB k + p) v) := by
  obtain ⟨h1, h2, h3, h4, h5, h6, h7, h8⟩ := h
  have hr : 91 ≤ rwB k := by unfold rwB; split <;> (try split) <;> omega
  refine ⟨?_, ?_, ?_, ?_, ?_, ?_, ?_, ?_⟩
  · rw [sI_ne _ _ (by omega), setA_ne (by omega)]; exact h1
  · rw [sI_ne _ _ (by omega), setA_ne (by omega)]; exact h2
  · intro i hi; rw [sI_ne _ _ (by omega), setA_ne (by omega)]; exact h3 i hi
  · intro q i a1 a2 a3
    by_cases e : q = k ∧ i = p
    · obtain ⟨rfl, rfl⟩ := e
      rw [sI_same]
      unfold mkS
      rw [if_neg (by omega), setA_eq]
    · rw [sI_ne _ _ (by omega), h4 q i a1 a2 a3]
      unfold mkS
      by_cases e2 : q = 2
      · rw [if_pos e2, if_pos e2, dm_setne (fun l _ _ => by omega)]
      · rw [if_neg e2, if_neg e2, setA_ne (by have c1 := rwB_cases (k := q) (by omega) (by omega); have c2 := rwB_cases (k := k) (by omega) (by omega); omega)]
  · intro i hi; rw [sI_ne _ _ (by omega)]; exact h5 i hi
  · intro i hi; rw [sI_ne _ _ (by omega), setA_ne (by omega)]; exact h6 i hi
  · intro i hi; rw [sI_ne _ _ (by omega), setA_ne (by omega)]; exact h7 i hi
  · intro i hi; rw [sI_ne _ _ (by omega), setA_ne (by omega)]; exact h8 i hi
theorem RelP.deck (h : RelP M b A) {p l : Nat} (hp : p < 10) (hl : l < 7) (v : Nat) : RelP (sI (sI M (b + 2) (20 + p) (nI (dm (setA A (21 + 7 * p + l) v) p))) (b + 3) (7 * p + l) (nI v)) b (setA A (21 + 7 * p + l) v) := by
  obtain ⟨h1, h2, h3, h4, h5, h6, h7, h8⟩ := h
  refine ⟨?_, ?_, ?_, ?_, ?_, ?_, ?_, ?_⟩
  · rw [sI_ne _ _ (by omega), sI_ne _ _ (by omega), setA_ne (by omega)]; exact h1
  · rw [sI_ne _ _ (by omega), sI_ne _ _ (by omega), setA_ne (by omega)]; exact h2
  · intro i hi; rw [sI_ne _ _ (by omega), sI_ne _ _ (by omega), setA_ne (by omega)]; exact h3 i hi
  · intro q i a1 a2 a3
    rw [sI_ne _ _ (by omega)]
    by_cases e : q = 2 ∧ i = p
    · obtain ⟨rfl, rfl⟩ := e
      rw [show 10 * 2 + i = 20 + i by omega, sI_same]
      unfold mkS
      rw [if_pos rfl]
    · rw [sI_ne _ _ (by omega), h4 q i a1 a2 a3]
      unfold mkS
      by_cases e2 : q = 2
      · rw [if_pos e2, if_pos e2, dm_setne (fun l' _ _ => by omega)]
      · rw [if_neg e2, if_neg e2, setA_ne (by have c1 := rwB_cases (k := q) (by omega) (by omega); omega)]
  · intro i hi; rw [sI_ne _ _ (by omega), sI_ne _ _ (by omega)]; exact h5 i hi
  · intro i hi
    by_cases e : i = 7 * p + l
    · subst e; rw [sI_same, show 21 + (7 * p + l) = 21 + 7 * p + l by omega, setA_eq]
    · rw [sI_ne _ _ (by omega), sI_ne _ _ (by omega), setA_ne (by omega)]; exact h6 i hi
  · intro i hi; rw [sI_ne _ _ (by omega), sI_ne _ _ (by omega), setA_ne (by omega)]; exact h7 i hi
  · intro i hi; rw [sI_ne _ _ (by omega), sI_ne _ _ (by omega), setA_ne (by omega)]; exact h8 i hi
theorem k_supply (hP : PlanAt Z b) {k : Nat} (hk : k < 6) (x : Int32) : fX4_supply N Z b (nI k) x M = some ((), sI M (b + 5) k (M.1 (b + 5) k + x)) := by
  obtain ⟨o1, -, -, -, -, o2, -, -, -, -, ⟨o4, o5, o6⟩⟩ := hP
  unfold fX4_supply
  rw [ck_t o1, o2, bnd1_some, k_at o5 (by omega) (by omega), bnd2_some, k_write o4 (by omega) (by omega), bnd2_some]
theorem k_supply0 (hP : PlanAt Z b) (x : Int32) : fX4_supply N Z b 0 x M = some ((), sI M (b + 5) 0 (M.1 (b + 5) 0 + x)) := k_supply (k := 0) hP (by omega) x
theorem k_supply1 (hP : PlanAt Z b) (x : Int32) : fX4_supply N Z b 1 x M = some ((), sI M (b + 5) 1 (M.1 (b + 5) 1 + x)) := k_supply (k := 1) hP (by omega) x
theorem k_posts (hP : PlanAt Z b) (hR : RelP M b A) (w0 : WF A c) {p l : Nat} (hp : p < A 0) (hl : l < 2147483648) : fX4_postsByLevel N Z b (nI p) (nI l) M = some (nI (pbl A p l), M) := by
  have h1 := w0.1
  have h2 := aL_lt w0 hp
  have h3 := aR_lt w0 hp
  have h4 := w0.2.2.2.2.1 (aL A p) (by omega)
  have h5 := w0.2.2.2.2.1 (aR A p) (by omega)
  have e1 := k_placeBefore (N := N) hP hR w0 hp
  have e2 := k_placeAfter (N := N) hP hR w0 hp
  obtain ⟨o1, o2, -, -, -, -, ⟨-, o5, o6⟩, -⟩ := hP
  have e3 : ∀ x : Nat, x < 2 → fX4_postsByLevel_21 N Z b (nI p) (nI l) (nI x) M = some (nI (x + if A (11 + aR A p) < l then 1 else 0), M) := by
    intro x hx
    unfold fX4_postsByLevel_21
    rw [ck_t o1, o2, bnd1_some, e2, bnd2_some, k_at o5 (by omega) (by omega), bnd2_some, hR.2.2.1 _ (by omega)]
    by_cases q : A (11 + aR A p) < l
    · rw [if_neg (by rw [i_le (by omega) (by omega)]; omega), if_pos q, nI_1]
    · rw [if_pos (by rw [i_le (by omega) (by omega)]; omega), if_neg q]; exact congrArg (fun y => some (y, M)) (nI_add x 0)
  unfold fX4_postsByLevel pbl
  rw [ck_t o1, o2, bnd1_some, e1, bnd2_some, k_at o5 (by omega) (by omega), bnd2_some, hR.2.2.1 _ (by omega)]
  by_cases q : A (11 + aL A p) < l
  · rw [if_neg (by rw [i_le (by omega) (by omega)]; omega), if_pos q]; exact e3 1 (by omega)
  · rw [if_pos (by rw [i_le (by omega) (by omega)]; omega), if_neg q]; exact e3 0 (by omega)
theorem k_has4 (hP : PlanAt Z b) (hR : RelP M b A) (w0 : WF A c) {p : Nat} (hp : p < 10) {l : Nat} (hl : l < 2147483648) : fX4_has N Z b (4 : Int32) (nI p) (nI l) M = some (if aHas A 4 p l then 1 else 0, M) := k_has (k := 4) hP hR w0 (by omega) (by omega) hp l hl
theorem k_tied (hP : PlanAt Z b) (hR : RelP M b A) (w0 : WF A c) {p l : Nat} (hp : p < A 0) (hl : l < 2147483648) : fX4_isTiedByLevel N Z b (nI p) (nI l) M = some (if tbl A p l then 1 else 0, M) := by
  have h1 := w0.1
  have h2 := aL_lt w0 hp
  have h3 := aR_lt w0 hp
  have h4 := w0.2.2.2.2.1 (aL A p) (by omega)
  have h5 := w0.2.2.2.2.1 (aR A p) (by omega)
  have e1 := k_placeBefore (N := N) hP hR w0 hp
  have e2 := k_placeAfter (N := N) hP hR w0 hp
  have e4 := fun q (hq : q < 10) => k_has4 (N := N) hP hR w0 hq hl
  obtain ⟨o1, o2, -, -, -, -, ⟨-, o5, o6⟩, -⟩ := hP
  have e3 : ∀ x : Bool, fX4_isTiedByLevel_37 N Z b (nI l) (nI (aR A p)) (if x then 1 else 0) M = some (if x || (decide (A (11 + aR A p) < l) && aHas A 4 (aR A p) l) then 1 else 0, M) := by
    intro x
    unfold fX4_isTiedByLevel_37
    rw [ck_t o1, o2, bnd1_some, k_at o5 (by omega) (by omega), bnd2_some, hR.2.2.1 _ (by omega)]
    by_cases q : A (11 + aR A p) < l
    · rw [if_neg (by rw [i_le (by omega) (by omega)]; omega), e4 _ (by omega), bnd2_some]
      cases x <;> cases aHas A 4 (aR A p) l <;> simp [q]
    · rw [if_pos (by rw [i_le (by omega) (by omega)]; omega)]
      cases x <;> simp [q]
  unfold fX4_isTiedByLevel tbl
  rw [ck_t o1, e2, bnd2_some, o2, bnd1_some, e1, bnd2_some, k_at o5 (by omega) (by omega), bnd2_some, hR.2.2.1 _ (by omega)]
  by_cases q : A (11 + aL A p) < l
  · rw [if_neg (by rw [i_le (by omega) (by omega)]; omega), e4 _ (by omega), bnd2_some]
    cases hq : aHas A 4 p l
    · have := e3 false; simpa [q, hq] using this
    · have := e3 true; simpa [q, hq] using this
  · rw [if_pos (by rw [i_le (by omega) (by omega)]; omega)]
    have := e3 false; simpa [q] using this
end KP4
