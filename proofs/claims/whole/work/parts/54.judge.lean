/-! ===== LAYER 3: for which reason work is refused ===== -/
def lvA (A : Row) (what p told : Nat) (tk : Bool) : Nat := if what = 0 then (if tk then A (11 + p) else A (11 + p) + 1) else told
def js1 (A : Row) (what p l : Nat) (tk : Bool) : Option (Nat × Nat) := if l < 1 ∨ (if what = 0 ∧ tk = false then 6 else hFor A what p) < l then some (1, hFor A what p) else none
def js2 (A : Row) (what p l : Nat) (tk : Bool) : Option (Nat × Nat) := if what ≠ 0 ∧ aHas A what p l ≠ tk then some (2, l) else none
def js3l (A : Row) (p l : Nat) : Option (Nat × Nat) := if 1 < l ∧ aHas A 2 p (l - 1) = false then some (3, l - 1) else if aHas A 2 p l = false then some (3, l) else none
def js3d (A : Row) (p l : Nat) : Option (Nat × Nat) := if aHas A 5 p l = true then some (3, l) else if aHas A 5 p (l + 1) = true then some (3, l + 1) else none
def js3h (A : Row) (p l : Nat) : Option (Nat × Nat) := if aHas A 2 p l = true then some (3, 2) else if aHas A 3 p l = true then some (3, 3) else if tbl A p l = true then some (3, 4) else if aHas A 5 p l = true then some (3, 5) else none
def js3 (A : Row) (what p l : Nat) (tk : Bool) : Option (Nat × Nat) := if what = 5 ∧ tk = false then js3l A p l else if what = 2 ∧ tk = true then js3d A p l else if what = 0 ∧ tk = true then js3h A p l else none
noncomputable def js4 (A : Row) (what p l : Nat) : Option (Nat × Nat) := if l = 1 ∨ rch A p (l - 1) = true ∨ (what = 4 ∧ rch A (aL A p) (l - 1) = true) then none else some (4, l)
def js5 (A : Row) (what p l : Nat) (tk : Bool) : Option (Nat × Nat) := if tk = true then none else if what = 0 then (if A 5 < pbl A p l then some (5, 0) else if A 6 < 2 then some (5, 1) else none) else if A (5 + what) < 1 then some (5, what) else none
def js6 (B : Row) : Option (Nat × Nat) := match aUnheld B, aUnbr B, aOver B with
  | some q, _, _ => some (6, q)
  | none, some q, _ => some (7, q)
  | none, none, some q => some (8, q)
  | none, none, none => none
def orJ (x y : Option (Nat × Nat)) : Option (Nat × Nat) := match x with
  | none => y
  | some r => some r
noncomputable def jst (A : Row) (what p l cls : Nat) (tk : Bool) : Option (Nat × Nat) := orJ (js1 A what p l tk) (orJ (js2 A what p l tk) (orJ (js3 A what p l tk) (orJ (js4 A what p l) (orJ (js5 A what p l tk) (js6 (doA A what p l cls tk))))))
theorem orJ_none {x y : Option (Nat × Nat)} (h : orJ x y = none) : x = none ∧ y = none := by
  cases x with
  | none => exact ⟨rfl, h⟩
  | some r => cases h
theorem js1_none {A : Row} {c what p l : Nat} {tk : Bool} (w : WF A c) (hp : p < A 0) (h : js1 A what p l tk = none) : 1 ≤ l ∧ l ≤ 6 ∧ (what ≠ 0 → l ≤ hFor A what p) := by
  have h1 := w.1
  have h2 := w.2.2.2.2.1 p (by omega)
  have h3 := aPH_le w hp
  have h4 : hFor A what p ≤ 6 := by unfold hFor; split <;> omega
  unfold js1 at h
  by_cases q : l < 1 ∨ (if what = 0 ∧ tk = false then 6 else hFor A what p) < l
  · rw [if_pos q] at h; cases h
  · by_cases q2 : what = 0 ∧ tk = false
    · rw [if_pos q2] at q; exact ⟨by omega, by omega, fun q3 => absurd q2.1 q3⟩
    · rw [if_neg q2] at q; exact ⟨by omega, by omega, fun _ => by omega⟩
/-- what stands ahead of the trial holds -/
theorem jst_ok {A : Row} {c what p l cls told : Nat} {tk : Bool} (w : WF A c) (hp : p < A 0) (hw : what = 0 ∨ (2 ≤ what ∧ what ≤ 5)) (hl : l = lvA A what p told tk) (hc : what = 2 → tk = false → 1 ≤ cls ∧ cls ≤ 4)
    (h1 : js1 A what p l tk = none) (h2 : js2 A what p l tk = none) (h3 : js3 A what p l tk = none) (h5 : js5 A what p l tk = none) : OkA A what p l cls tk := by
  have hh := js1_none w hp h1
  refine ⟨hw, hp, hh.1, hh.2.1, ?_, ?_, ?_, ?_, hc⟩
  · rintro rfl rfl
    unfold js3 at h3
    rw [if_neg (by omega), if_neg (by omega), if_pos ⟨rfl, rfl⟩] at h3
    unfold js3h at h3
    have hl' : l = A (11 + p) := by rw [hl]; rfl
    cases q1 : aHas A 2 p l with
    | true => rw [q1, if_pos rfl] at h3; cases h3
    | false =>
    cases q2 : aHas A 3 p l with
    | true => rw [q1, q2, if_neg (by decide), if_pos rfl] at h3; cases h3
    | false =>
    cases q3 : tbl A p l with
    | true => rw [q1, q2, q3, if_neg (by decide), if_neg (by decide), if_pos rfl] at h3; cases h3
    | false =>
    cases q4 : aHas A 5 p l with
    | true => rw [q1, q2, q3, q4, if_neg (by decide), if_neg (by decide), if_neg (by decide), if_pos rfl] at h3; cases h3
    | false =>
    refine ⟨hl', ?_, rfl, rfl, rfl⟩
    unfold aHas at q1
    rw [show mkS A 2 p = dm A p from rfl, dm_bit A p hh.1 hh.2.1] at q1
    simpa [hh.1, hh.2.1] using q1
  · rintro rfl rfl
    unfold js5 at h5
    rw [if_neg (by decide), if_pos rfl] at h5
    refine ⟨by rw [hl]; rfl, ?_⟩
    by_cases q1 : A 5 < pbl A p l
    · rw [if_pos q1] at h5; cases h5
    · rw [if_neg q1] at h5
      by_cases q2 : A 6 < 2
      · rw [if_pos q2] at h5; cases h5
      · omega
  · intro q
    refine ⟨?_, hh.2.2 q⟩
    unfold js2 at h2
    by_cases q2 : aHas A what p l = tk
    · exact q2
    · rw [if_pos ⟨q, q2⟩] at h2; cases h2
  · rintro q rfl
    unfold js5 at h5
    rw [if_neg (by decide), if_neg q] at h5
    by_cases q2 : A (5 + what) < 1
    · rw [if_pos q2] at h5; cases h5
    · omega
/-- the class's judge: a refusal is written down -/
def jM (M : mM) (J : Nat) (r : Option (Nat × Nat)) : mM := match r with
  | none => M
  | some q => sI (sI M J 0 (nI q.1)) J 1 (nI q.2)
def onJ (J x j : Nat) : Prop := x = J ∧ j < 2
theorem jM_fr {M : mM} {J : Nat} {r : Option (Nat × Nat)} : Fr (onJ J) M (jM M J r) := by
  cases r with
  | none => exact Fr.rfl
  | some q => exact (Fr.put (P := onJ J) ⟨rfl, by omega⟩).trans (Fr.put ⟨rfl, by omega⟩)
section JG
variable {N : Nat} {Z : mZ} {M : mM} {J P w0 : Nat} {A : Row} {c : Nat}
theorem j_refuse (hJ : okO Z J 3 = true) (r d : Nat) : fX3_refuse N Z J (nI r) (nI d) M = some ((), jM M J (some (r, d))) := by
  unfold fX3_refuse; rw [ck_t hJ]; rfl
theorem j_place (hJ : okO Z J 3 = true) (hP : PlanAt Z P) (hW : okO Z w0 7 = true) (hR : RelP M P A) (w : WF A c) {what p l cls : Nat} {tk : Bool} (hj : JobR M w0 what p l cls tk) (hk : 2 ≤ what) (hk5 : what ≤ 5) (hp : p < A 0) (hl : l < 100) :
    fX3_examinePlace N Z J P w0 M = some ((), jM M J (js2 A what p l tk)) := by
  have h1 := w.1
  obtain ⟨j0, j1, j2, j3, j4⟩ := hj
  unfold fX3_examinePlace js2
  have e := k_has (N := N) hP hR w hk hk5 (p := p) (by omega) l (by omega)
  have r : ∀ d : Nat, fX3_refuse N Z J (2 : Int32) (nI d) M = some ((), jM M J (some (2, d))) := fun d => j_refuse (r := 2) hJ d
  simp only [ck_t hW, ck_t hP.1, ck_t hJ, j0, j1, j2, j4, e, bnd2_some, r]
  cases aHas A what p l <;> cases tk <;> simp [show what ≠ 0 by omega, jM]
theorem k_has2 (hP : PlanAt Z P) (hR : RelP M P A) (w : WF A c) {p : Nat} (hp : p < 10) {l : Nat} (hl : l < 2147483648) : fX4_has N Z P (2 : Int32) (nI p) (nI l) M = some (if aHas A 2 p l then 1 else 0, M) := k_has (k := 2) hP hR w (by omega) (by omega) hp l hl
theorem k_has3 (hP : PlanAt Z P) (hR : RelP M P A) (w : WF A c) {p : Nat} (hp : p < 10) {l : Nat} (hl : l < 2147483648) : fX4_has N Z P (3 : Int32) (nI p) (nI l) M = some (if aHas A 3 p l then 1 else 0, M) := k_has (k := 3) hP hR w (by omega) (by omega) hp l hl
theorem k_has5 (hP : PlanAt Z P) (hR : RelP M P A) (w : WF A c) {p : Nat} (hp : p < 10) {l : Nat} (hl : l < 2147483648) : fX4_has N Z P (5 : Int32) (nI p) (nI l) M = some (if aHas A 5 p l then 1 else 0, M) := k_has (k := 5) hP hR w (by omega) (by omega) hp l hl
theorem j_ladder (hJ : okO Z J 3 = true) (hP : PlanAt Z P) (hW : okO Z w0 7 = true) (hR : RelP M P A) (w : WF A c) {what p l cls : Nat} {tk : Bool} (hj : JobR M w0 what p l cls tk) (hp : p < A 0) (h1 : 1 ≤ l) (hl : l < 100) :
    fX3_examineDecksOfLadder N Z J P w0 M = some ((), jM M J (js3l A p l)) := by
  have h10 := w.1
  obtain ⟨j0, j1, j2, j3, j4⟩ := hj
  unfold fX3_examineDecksOfLadder js3l
  have e1 := k_has2 (N := N) hP hR w (p := p) (by omega) (l := l) (by omega)
  have e2 := k_has2 (N := N) hP hR w (p := p) (by omega) (l := l - 1) (by omega)
  have e3 : nI l - 1 = nI (l - 1) := i_sub (b := 1) h1
  have r : ∀ d : Nat, fX3_refuse N Z J (3 : Int32) (nI d) M = some ((), jM M J (some (3, d))) := fun d => j_refuse (r := 3) hJ d
  simp only [ck_t hW, ck_t hP.1, ck_t hJ, j0, j1, j2, e1, e2, e3, bnd2_some, r]
  by_cases q : 1 < l
  · rw [if_neg (by rw [i_0, i_le (by omega) (by omega)]; omega)]
    cases aHas A 2 p (l - 1) <;> cases aHas A 2 p l <;> simp [q, jM]
  · rw [if_pos (by rw [i_0, i_le (by omega) (by omega)]; omega)]
    cases aHas A 2 p l <;> simp [q, jM]
theorem j_deck (hJ : okO Z J 3 = true) (hP : PlanAt Z P) (hW : okO Z w0 7 = true) (hR : RelP M P A) (w : WF A c) {what p l cls : Nat} {tk : Bool} (hj : JobR M w0 what p l cls tk) (hp : p < A 0) (hl : l < 100) :
    fX3_examineLaddersOfDeck N Z J P w0 M = some ((), jM M J (js3d A p l)) := by
  have h10 := w.1
  obtain ⟨j0, j1, j2, j3, j4⟩ := hj
  unfold fX3_examineLaddersOfDeck js3d
  have e1 := k_has5 (N := N) hP hR w (p := p) (by omega) (l := l) (by omega)
  have e2 := k_has5 (N := N) hP hR w (p := p) (by omega) (l := l + 1) (by omega)
  have r : ∀ d : Nat, fX3_refuse N Z J (3 : Int32) (nI d) M = some ((), jM M J (some (3, d))) := fun d => j_refuse (r := 3) hJ d
  simp only [ck_t hW, ck_t hP.1, ck_t hJ, j0, j1, j2, nI_1, e1, e2, bnd2_some, r]
  cases aHas A 5 p l <;> cases aHas A 5 p (l + 1) <;> simp [jM]
theorem j_pieces (hJ : okO Z J 3 = true) (hP : PlanAt Z P) (hW : okO Z w0 7 = true) (hR : RelP M P A) (w : WF A c) {what p l cls : Nat} {tk : Bool} (hj : JobR M w0 what p l cls tk) (hp : p < A 0) (hl : l < 100) :
    fX3_examinePiecesOfLevel N Z J P w0 M = some ((), jM M J (js3h A p l)) := by
  have h10 := w.1
  obtain ⟨j0, j1, j2, j3, j4⟩ := hj
  have r : ∀ d : Nat, fX3_refuse N Z J (3 : Int32) (nI d) M = some ((), jM M J (some (3, d))) := fun d => j_refuse (r := 3) hJ d
  unfold fX3_examinePiecesOfLevel js3h
  have e1 := k_has2 (N := N) hP hR w (p := p) (by omega) (l := l) (by omega)
  have e2 := k_has3 (N := N) hP hR w (p := p) (by omega) (l := l) (by omega)
  have e3 := k_has5 (N := N) hP hR w (p := p) (by omega) (l := l) (by omega)
  have e4 := k_tied (N := N) hP hR w hp (l := l) (by omega)
  have r2 : fX3_refuse N Z J (3 : Int32) (2 : Int32) M = some ((), jM M J (some (3, 2))) := r 2
  have r3 : fX3_refuse N Z J (3 : Int32) (3 : Int32) M = some ((), jM M J (some (3, 3))) := r 3
  have r4 : fX3_refuse N Z J (3 : Int32) (4 : Int32) M = some ((), jM M J (some (3, 4))) := r 4
  have r5 : fX3_refuse N Z J (3 : Int32) (5 : Int32) M = some ((), jM M J (some (3, 5))) := r 5
  simp only [ck_t hW, ck_t hP.1, ck_t hJ, j0, j1, j2, e1, e2, e3, e4, bnd2_some, r2, r3, r4, r5]
  cases aHas A 2 p l <;> cases aHas A 3 p l <;> cases tbl A p l <;> cases aHas A 5 p l <;> simp [jM]
theorem j_standing {a : Nat} (hJ : okO Z J 3 = true) (hP : PlanAt Z P) (hWy : WaysAt Z a) (hW : okO Z w0 7 = true) (hR : RelP M P A) (hy : WaysR M a A) (w : WF A c) {what p l cls : Nat} {tk : Bool} (hj : JobR M w0 what p l cls tk) (hw : what ≤ 5) (hp : p < A 0) (h1 : 1 ≤ l) (hl : l < 100) :
    fX3_examineStanding N Z J P a w0 M = some ((), jM M J (js4 A what p l)) := by
  have h10 := w.1
  have hL := aL_lt w hp
  obtain ⟨j0, j1, j2, j3, j4⟩ := hj
  unfold fX3_examineStanding js4
  have e1 := w_reached (N := N) hWy hy (b := p) (by omega) (l := l - 1) (by omega)
  have e2 := w_reached (N := N) hWy hy (b := aL A p) (by omega) (l := l - 1) (by omega)
  have e3 : nI l - 1 = nI (l - 1) := i_sub (b := 1) h1
  have e4 := k_placeBefore (N := N) hP hR w hp
  have r : ∀ d : Nat, fX3_refuse N Z J (4 : Int32) (nI d) M = some ((), jM M J (some (4, d))) := fun d => j_refuse (r := 4) hJ d
  simp only [ck_t hW, ck_t hP.1, ck_t hJ, ck_t hWy.1, j0, j1, j2, e1, e2, e3, e4, bnd2_some, r]
  by_cases q : l = 1
  · rw [if_pos (by rw [q]; rfl), if_pos (Or.inl q)]; rfl
  · rw [if_neg (by rw [i_0, i_eq (by omega) (by omega)]; omega)]
    by_cases q4 : what = 4
    · subst q4
      cases rch A p (l - 1) <;> cases rch A (aL A p) (l - 1) <;> simp [q, jM, show nI 4 = (4 : Int32) from rfl]
    · have q5 : ¬ nI what = (4 : Int32) := by rw [i_4, i_eq (by omega) (by omega)]; exact q4
      cases rch A p (l - 1) <;> simp [q, q4, q5, jM]
theorem j_yard (hJ : okO Z J 3 = true) (hP : PlanAt Z P) (hW : okO Z w0 7 = true) (hR : RelP M P A) (w : WF A c) {what p l cls : Nat} (hj : JobR M w0 what p l cls false) (hw : what ≤ 5) (hp : p < A 0) (hl : l < 100) :
    fX3_examineYard N Z J P w0 M = some ((), jM M J (js5 A what p l false)) := by
  have h10 := w.1
  have hb := pbl_le A p l
  have hy := w.2.2.2.2.2.2.2.2.2.2.2.2.1
  have hc := w.2.2.2.2.2.2.2.2.2.2.2.2.2
  obtain ⟨j0, j1, j2, j3, j4⟩ := hj
  have e1 := k_posts (N := N) hP hR w hp (l := l) (by omega)
  have y := hR.2.2.2.2.2.2.2
  have hP' := hP
  obtain ⟨o1, -, -, -, -, o2, -, -, -, -, ⟨o4, o5, o6⟩⟩ := hP
  unfold fX3_examineYard js5
  have r : ∀ d : Nat, fX3_refuse N Z J (5 : Int32) (nI d) M = some ((), jM M J (some (5, d))) := fun d => j_refuse (r := 5) hJ d
  have r0 : fX3_refuse N Z J (5 : Int32) (0 : Int32) M = some ((), jM M J (some (5, 0))) := r 0
  have r1 : fX3_refuse N Z J (5 : Int32) (1 : Int32) M = some ((), jM M J (some (5, 1))) := r 1
  rw [if_neg (show ¬ (false = true) from Bool.noConfusion)]
  by_cases q : what = 0
  · subst q
    have y0 : M.1 (P + 5) 0 = nI (A 5) := y 0 (by omega)
    have y1 : M.1 (P + 5) 1 = nI (A 6) := y 1 (by omega)
    have b0 : A 5 ≤ 1000 + 2 * c := hy 0 (by omega)
    have b1 : A 6 ≤ 1000 + 2 * c := hy 1 (by omega)
    have k0 := k_at0 (N := N) (M := M) o5 (by omega) (by omega)
    have k1 := k_at1 (N := N) (M := M) o5 (by omega) (by omega)
    rw [ck_t hW, j0, if_pos (show nI 0 = 0 from rfl), if_pos (show (0 : Nat) = 0 from rfl)]
    simp only [ck_t hP'.1, o2, bnd1_some, k0, k1, bnd2_some, j1, j2, e1, y0, y1, ck_t hJ, r0, r1]
    by_cases q1 : A 5 < pbl A p l
    · rw [if_neg (by rw [i_le (by omega) (by omega)]; omega), if_pos q1]
    · rw [if_pos (by rw [i_le (by omega) (by omega)]; omega), if_neg q1]
      by_cases q2 : A 6 < 2
      · rw [if_neg (by rw [i_2, i_le (by omega) (by omega)]; omega), if_pos q2]
      · rw [if_pos (by rw [i_2, i_le (by omega) (by omega)]; omega), if_neg q2]; rfl
  · have yk := y what (by omega)
    have bk := hy what (by omega)
    have k0 := k_at (N := N) (M := M) o5 (show what < Z.2.2.1 (P + 5) by omega) (by omega)
    rw [ck_t hW, j0, if_neg (by rw [i_0, i_eq (by omega) (by omega)]; exact q), if_neg q]
    simp only [ck_t hP'.1, o2, bnd1_some, k0, bnd2_some, yk, j0, ck_t hJ, r]
    by_cases q1 : A (5 + what) < 1
    · rw [if_neg (by rw [i_1, i_le (by omega) (by omega)]; omega), if_pos q1]
    · rw [if_pos (by rw [i_1, i_le (by omega) (by omega)]; omega), if_neg q1]; rfl
end JG
