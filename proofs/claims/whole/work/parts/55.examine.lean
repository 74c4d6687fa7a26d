/-! ===== LAYER 3: the class's examine ===== -/
def JobX (M : mM) (w what p : Nat) (x : Int32) (cls : Nat) (tk : Bool) : Prop := M.1 w 0 = nI what ∧ M.1 w 1 = nI p ∧ M.1 w 2 = x ∧ M.1 w 3 = nI cls ∧ M.1 w 4 = if tk then 1 else 0
def JudgeAt (Z : mZ) (J : Nat) : Prop := okO Z J 3 = true ∧ Z.2.2.2 J 2 = some (J + 1) ∧ PlanAt Z (J + 1)
def rN (r : Option (Nat × Nat)) : Nat := match r with
  | none => 0
  | some q => q.1
def rD (r : Option (Nat × Nat)) : Nat := match r with
  | none => 0
  | some q => q.2
def Res (M : mM) (J : Nat) (r : Option (Nat × Nat)) : Prop := M.1 J 0 = nI (rN r) ∧ M.1 J 1 = nI (rD r)
def onE (J w x j : Nat) : Prop := (x = J ∧ j < 2) ∨ inP (J + 1) x ∨ (x = w ∧ j = 2)
theorem clampNeg {x : Int32} (h : x < 0) : x.toNatClampNeg = 0 := by
  have h1 : x.toInt < 0 := by
    rw [Int32.lt_iff_toInt_lt] at h; exact h
  show x.toInt.toNat = 0
  omega
theorem JobX.fr {Pr : Nat → Nat → Prop} {M M' : mM} {w what p cls : Nat} {x : Int32} {tk : Bool} (h : JobX M w what p x cls tk) (s : Fr Pr M M') (hd : ∀ j, ¬ Pr w j) : JobX M' w what p x cls tk := by
  obtain ⟨h0, h1, h2, h3, h4⟩ := h
  exact ⟨by rw [s.1 _ _ (hd 0)]; exact h0, by rw [s.1 _ _ (hd 1)]; exact h1, by rw [s.1 _ _ (hd 2)]; exact h2, by rw [s.1 _ _ (hd 3)]; exact h3, by rw [s.1 _ _ (hd 4)]; exact h4⟩
theorem RelP.fr {Pr : Nat → Nat → Prop} {M M' : mM} {b : Nat} {A : Row} (h : RelP M b A) (s : Fr Pr M M') (hd : ∀ a j, b ≤ a → a ≤ b + 5 → ¬ Pr a j) : RelP M' b A :=
  h.same (S := fun a => ∃ j, Pr a j) (s.same (fun a j hp => ⟨j, hp⟩)) (fun a h1 h2 h3 => by obtain ⟨j, hj⟩ := h3; exact hd a j h1 h2 hj)
theorem WaysR.fr {Pr : Nat → Nat → Prop} {M M' : mM} {a : Nat} {A : Row} (h : WaysR M a A) (s : Fr Pr M M') (hd : ∀ x j, a ≤ x → x ≤ a + 4 → ¬ Pr x j) : WaysR M' a A :=
  h.same (S := fun a => ∃ j, Pr a j) (s.same (fun a j hp => ⟨j, hp⟩)) (fun a h1 h2 h3 => by obtain ⟨j, hj⟩ := h3; exact hd a j h1 h2 hj)
section JE
variable {N : Nat} {Z : mZ} {J P a w0 : Nat} {A : Row} {c : Nat}
theorem jM_res {M : mM} {r : Option (Nat × Nat)} (h0 : M.1 J 0 = 0) (h1 : M.1 J 1 = 0) : Res (jM M J r) J r := by
  cases r with
  | none => exact ⟨h0, h1⟩
  | some q => exact ⟨by show (sI (sI M J 0 (nI q.1)) J 1 (nI q.2)).1 J 0 = _; rw [sI_ne _ _ (by omega), sI_same]; rfl, by show (sI (sI M J 0 (nI q.1)) J 1 (nI q.2)).1 J 1 = _; rw [sI_same]; rfl⟩
theorem j_level (hJ : okO Z J 3 = true) (hP : PlanAt Z P) (hW : okO Z w0 7 = true) {M : mM} (hR : RelP M P A) (w : WF A c) {what p cls : Nat} {x : Int32} {tk : Bool} (hj : JobX M w0 what p x cls tk) (hk5 : what ≤ 5) (hp : p < A 0) :
    fX3_examineLevel N Z J P w0 M = some ((), jM (if what = 0 then sI M w0 2 (nI (lvA A what p x.toNatClampNeg tk)) else M) J (js1 A what p (lvA A what p x.toNatClampNeg tk) tk)) := by
  have h10 := w.1
  obtain ⟨j0, j1, j2, j3, j4⟩ := hj
  have e := k_heightFor (N := N) hP hW hR w j0 j1 hk5 hp
  have hh6 := w.2.2.2.2.1 p (by omega)
  have hph := aPH_le w hp
  have hf : hFor A what p ≤ 6 := by unfold hFor; split <;> omega
  have r : ∀ (M : mM) (d : Nat), fX3_refuse N Z J (1 : Int32) (nI d) M = some ((), jM M J (some (1, d))) := fun M d => j_refuse (r := 1) hJ d
  unfold fX3_examineLevel
  rw [ck_t hP.1, e, bnd2_some, ck_t hW, j0]
  by_cases q : what = 0
  · subst q
    have hf0 : hFor A 0 p = A (11 + p) := rfl
    rw [if_pos (show nI 0 = 0 from rfl), j4, if_pos (show (0 : Nat) = 0 from rfl), hf0]
    have n0 : ∀ v, (sI M w0 2 v).1 w0 0 = nI 0 := fun v => by rw [sI_ne _ _ (by omega)]; exact j0
    have n4 : ∀ v, (sI M w0 2 v).1 w0 4 = if tk then 1 else 0 := fun v => by rw [sI_ne _ _ (by omega)]; exact j4
    have n2 : ∀ v, (sI M w0 2 v).1 w0 2 = v := fun v => sI_same _ _ _ _
    cases tk with
    | false =>
      rw [if_pos (by decide), nI_1]
      unfold fX3_examineLevel_31
      rw [ck_t hW, n0, if_pos (show nI 0 = 0 from rfl), n4, if_pos (by decide), n2, if_neg (by rw [i_1, i_lt (by omega) (by omega)]; omega)]
      have hl : lvA A 0 p x.toNatClampNeg false = A (11 + p) + 1 := rfl
      rw [hl]
      unfold js1
      rw [if_pos (show (0 : Nat) = 0 ∧ false = false from ⟨rfl, rfl⟩), hf0]
      by_cases q2 : A (11 + p) + 1 ≤ 6
      · rw [if_pos (by rw [i_6, i_le (by omega) (by omega)]; exact q2), if_neg (by omega)]; rfl
      · rw [if_neg (by rw [i_6, i_le (by omega) (by omega)]; exact q2), if_pos (by omega), ck_t hJ, r, bnd2_some]
    | true =>
      rw [if_neg (by decide)]
      unfold fX3_examineLevel_31
      rw [ck_t hW, n0, if_pos (show nI 0 = 0 from rfl), n4, if_neg (by decide)]
      unfold fX3_examineLevel_50
      have hl : lvA A 0 p x.toNatClampNeg true = A (11 + p) := rfl
      rw [ck_t hW, n2, hl]
      unfold js1
      rw [if_neg (show ¬ ((0 : Nat) = 0 ∧ true = false) from fun q => Bool.noConfusion q.2), hf0]
      by_cases q2 : A (11 + p) < 1
      · rw [if_pos (by rw [i_1, i_lt (by omega) (by omega)]; exact q2), if_pos (Or.inl q2), ck_t hJ, r, bnd2_some]
      · rw [if_neg (by rw [i_1, i_lt (by omega) (by omega)]; exact q2), if_pos (by rw [i_le (by omega) (by omega)]; omega), if_neg (by omega)]; rfl
  · have q0 : ¬ nI what = 0 := by rw [i_0, i_eq (by omega) (by omega)]; exact q
    rw [if_neg q0, if_neg q]
    have hl : lvA A what p x.toNatClampNeg tk = x.toNatClampNeg := by unfold lvA; rw [if_neg q]
    unfold fX3_examineLevel_31
    rw [ck_t hW, j0, if_neg q0, hl]
    unfold fX3_examineLevel_50 js1
    rw [ck_t hW, j2, if_neg (show ¬ (what = 0 ∧ tk = false) from fun z => q z.1)]
    rcases i32_cases x with hx | ⟨l, hl2, rfl⟩
    · rw [clampNeg hx, if_pos (show x < 1 by
        rw [Int32.lt_iff_toInt_lt] at hx ⊢
        have a1 : (0 : Int32).toInt = 0 := rfl
        have a2 : (1 : Int32).toInt = 1 := rfl
        omega), if_pos (Or.inl (by omega)), ck_t hJ, r, bnd2_some]
    · rw [i_cl hl2]
      by_cases q2 : l < 1
      · rw [if_pos (by rw [i_1, i_lt (by omega) (by omega)]; exact q2), if_pos (Or.inl q2), ck_t hJ, r, bnd2_some]
      · rw [if_neg (by rw [i_1, i_lt (by omega) (by omega)]; exact q2)]
        by_cases q3 : l ≤ hFor A what p
        · rw [if_pos (by rw [i_le (by omega) (by omega)]; exact q3), if_neg (by omega)]; rfl
        · rw [if_neg (by rw [i_le (by omega) (by omega)]; exact q3), if_pos (by omega), ck_t hJ, r, bnd2_some]
/-- once refused, nothing more is done -/
theorem j_skip153 (hJ : okO Z J 3 = true) {M : mM} {r : Nat} (h : M.1 J 0 = nI r) (h0 : r ≠ 0) (h1 : r < 100) : fX3_examine_153 N Z J P w0 M = some ((), M) := by
  have q : ¬ M.1 J 0 = 0 := by rw [h, i_0, i_eq (by omega) (by omega)]; exact h0
  unfold fX3_examine_153; rw [ck_t hJ, if_neg q]
theorem j_skip119 (hJ : okO Z J 3 = true) {M : mM} {r : Nat} (h : M.1 J 0 = nI r) (h0 : r ≠ 0) (h1 : r < 100) : fX3_examine_119 N Z J P a w0 M = some ((), M) := by
  have q : ¬ M.1 J 0 = 0 := by rw [h, i_0, i_eq (by omega) (by omega)]; exact h0
  unfold fX3_examine_119; rw [ck_t hJ, if_neg q, if_neg q]; exact j_skip153 hJ h h0 h1
theorem j_skip64 (hJ : okO Z J 3 = true) {M : mM} {r : Nat} (h : M.1 J 0 = nI r) (h0 : r ≠ 0) (h1 : r < 100) : fX3_examine_64 N Z J P a w0 M = some ((), M) := by
  have q : ¬ M.1 J 0 = 0 := by rw [h, i_0, i_eq (by omega) (by omega)]; exact h0
  unfold fX3_examine_64; rw [ck_t hJ, if_neg q, if_neg q]; exact j_skip119 hJ h h0 h1
theorem j_skip36 (hJ : okO Z J 3 = true) {M : mM} {r : Nat} (h : M.1 J 0 = nI r) (h0 : r ≠ 0) (h1 : r < 100) : fX3_examine_36 N Z J P a w0 M = some ((), M) := by
  have q : ¬ M.1 J 0 = 0 := by rw [h, i_0, i_eq (by omega) (by omega)]; exact h0
  unfold fX3_examine_36; rw [ck_t hJ, if_neg q]; exact j_skip64 hJ h h0 h1
theorem j_lowest (hJ : okO Z J 3 = true) {M : mM} (h0 : M.1 J 0 = 0) {x : Option Nat} (hx : ∀ q, x = some q → q < 100) (k : Nat) : fX3_examineLowest N Z J (nI k) (optI x) M = some ((), jM M J (x.map (fun q => (k, q)))) := by
  unfold fX3_examineLowest
  rw [ck_t hJ, if_pos h0]
  cases x with
  | none => rfl
  | some q =>
    rw [if_neg (fun e => by have := (optI_none hx).1 e; cases this), show optI (some q) = nI q from rfl, j_refuse hJ, bnd2_some]; rfl
theorem j_lowest' (hJ : okO Z J 3 = true) {M : mM} {r : Nat} (h : M.1 J 0 = nI r) (h0 : r ≠ 0) (h1 : r < 100) (k v : Int32) : fX3_examineLowest N Z J k v M = some ((), M) := by
  have q : ¬ M.1 J 0 = 0 := by rw [h, i_0, i_eq (by omega) (by omega)]; exact h0
  unfold fX3_examineLowest; rw [ck_t hJ, if_neg q]
end JE
