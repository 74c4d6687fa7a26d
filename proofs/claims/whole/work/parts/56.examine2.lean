/-! ===== LAYER 3: the class's examine, all of it ===== -/
def onT (J x j : Nat) : Prop := (x = J ∧ j < 2) ∨ inP (J + 1) x
theorem jM_frT {M : mM} {J : Nat} {r : Option (Nat × Nat)} : Fr (onT J) M (jM M J r) := jM_fr.mono (fun x j h => Or.inl h)
theorem jM_none {M : mM} {J : Nat} : jM M J none = M := rfl
theorem orJ_n {y : Option (Nat × Nat)} : orJ none y = y := rfl
theorem orJ_s {y : Option (Nat × Nat)} {r : Nat × Nat} : orJ (some r) y = some r := rfl
theorem jM_some {M : mM} {J a b : Nat} : (jM M J (some (a, b))).1 J 0 = nI a := by
  show (sI (sI M J 0 (nI a)) J 1 (nI b)).1 J 0 = _; rw [sI_ne _ _ (by omega), sI_same]
section JX
variable {N : Nat} {Z : mZ} {J P a w0 : Nat} {A : Row} {c : Nat}
theorem j_153 (hN : 5000 ≤ N) (hJ : JudgeAt Z J) (hP : PlanAt Z P) (hW : okO Z w0 7 = true) (hd : J + 7 ≤ P ∨ P + 6 ≤ J) (hwJ : w0 < J ∨ J + 6 < w0) {M : mM} (hR : RelP M P A) (w : WF A c) (hc : c + 1 ≤ 1000000) {what p l cls : Nat} {tk : Bool} (hj : JobR M w0 what p l cls tk) (ho : OkA A what p l cls tk) (h0 : M.1 J 0 = 0) (h1 : M.1 J 1 = 0) :
    ∃ M', fX3_examine_153 N Z J P w0 M = some ((), M') ∧ Fr (onT J) M M' ∧ Res M' J (js6 (doA A what p l cls tk)) := by
  obtain ⟨oJ, rJ, pJ⟩ := hJ
  have wB := doA_wf w hc ho
  have s1 : Same (inP (J + 1)) M (cpM M (J + 1) P) := cpM_same
  have hj1 : JobR (cpM M (J + 1) P) w0 what p l cls tk := JobX.fr (x := nI l) hj s1.fr (fun j q => by have := q.1; have := q.2; omega)
  obtain ⟨M2, e2, R2, s2⟩ := k_carryOut (N := N) pJ hW (by omega) (cpM_rel (b := J + 1) hR) w hj1 ho
  have s12 : Fr (onT J) M M2 := (s1.trans s2).fr.mono (fun x j h => Or.inr h)
  have z0 : M2.1 J 0 = 0 := by rw [(s1.trans s2).1 J (fun q => by have := q.1; omega)]; exact h0
  have z1 : M2.1 J 1 = 0 := by rw [(s1.trans s2).1 J (fun q => by have := q.1; omega)]; exact h1
  have b0 := wB.1
  have b1 : ∀ q, aUnheld (doA A what p l cls tk) = some q → q < 100 := fun q hq => by have := ffr_lt _ _ _ hq; omega
  have b2 : ∀ q, aUnbr (doA A what p l cls tk) = some q → q < 100 := fun q hq => by have := ffr_lt _ _ _ hq; omega
  have b3 : ∀ q, aOver (doA A what p l cls tk) = some q → q < 100 := fun q hq => by have := ffr_lt _ _ _ hq; omega
  have RJ : ∀ r, RelP (jM M2 J r) (J + 1) (doA A what p l cls tk) := fun r => R2.fr jM_fr (fun x j h1 h2 h3 => by have := h3.1; omega)
  have u2 := fun M (h : RelP M (J + 1) (doA A what p l cls tk)) => k_lowestUnbraced (N := N) hN pJ h wB
  have u3 := fun M (h : RelP M (J + 1) (doA A what p l cls tk)) => k_lowestOver (N := N) hN pJ h wB
  have st : ∀ M', (bnd2 (fX3_examineLowest N Z J (6 : Int32) (optI (aUnheld (doA A what p l cls tk))) M2) (fun _ M34 => bnd2 (fX4_lowestUnbracedBay N Z (J + 1) M34) (fun r35 M35 => bnd2 (fX3_examineLowest N Z J (7 : Int32) r35 M35) (fun _ M36 => bnd2 (fX4_lowestOverloadedPost N Z (J + 1) M36) (fun r37 M37 => bnd2 (fX3_examineLowest N Z J (8 : Int32) r37 M37) (fun _ M38 => some ((), M38)))))) = some ((), M')) →
      fX3_examine_153 N Z J P w0 M = some ((), M') := by
    intro M' h
    unfold fX3_examine_153
    rw [ck_t oJ, if_pos h0, rJ, bnd1_some, ck_t pJ.1, k_copy hN pJ hP (by omega), bnd2_some, e2, bnd2_some, k_lowestUnheld hN pJ R2 wB, bnd2_some]
    exact h
  unfold js6
  cases q1 : aUnheld (doA A what p l cls tk) with
  | some q =>
    refine ⟨jM M2 J (some (6, q)), st _ ?_, s12.trans jM_frT, jM_res z0 z1⟩
    rw [q1, show (6 : Int32) = nI 6 from rfl, j_lowest oJ z0 (fun y hy => by rw [← q1] at hy; exact b1 y hy), bnd2_some]
    show bnd2 (fX4_lowestUnbracedBay N Z (J + 1) (jM M2 J (some (6, q)))) _ = _
    rw [u2 _ (RJ _), bnd2_some, j_lowest' oJ jM_some (by omega) (by omega), bnd2_some, u3 _ (RJ _), bnd2_some, j_lowest' oJ jM_some (by omega) (by omega), bnd2_some]
  | none =>
    cases q2 : aUnbr (doA A what p l cls tk) with
    | some q =>
      refine ⟨jM M2 J (some (7, q)), st _ ?_, s12.trans jM_frT, jM_res z0 z1⟩
      rw [q1, show (6 : Int32) = nI 6 from rfl, j_lowest oJ z0 (fun y hy => by cases hy), bnd2_some]
      show bnd2 (fX4_lowestUnbracedBay N Z (J + 1) M2) _ = _
      rw [u2 _ R2, bnd2_some, q2, show (7 : Int32) = nI 7 from rfl, j_lowest oJ z0 (fun y hy => by rw [← q2] at hy; exact b2 y hy), bnd2_some]
      show bnd2 (fX4_lowestOverloadedPost N Z (J + 1) (jM M2 J (some (7, q)))) _ = _
      rw [u3 _ (RJ _), bnd2_some, j_lowest' oJ jM_some (by omega) (by omega), bnd2_some]
    | none =>
      have h8 : fX3_examineLowest N Z J (8 : Int32) (optI (aOver (doA A what p l cls tk))) M2 = some ((), jM M2 J ((aOver (doA A what p l cls tk)).map (fun q => (8, q)))) := j_lowest (k := 8) oJ z0 b3
      refine ⟨jM M2 J ((aOver (doA A what p l cls tk)).map (fun q => (8, q))), st _ ?_, s12.trans jM_frT, ?_⟩
      · rw [q1, show (6 : Int32) = nI 6 from rfl, j_lowest oJ z0 (fun y hy => by cases hy), bnd2_some]
        show bnd2 (fX4_lowestUnbracedBay N Z (J + 1) M2) _ = _
        rw [u2 _ R2, bnd2_some, q2, show (7 : Int32) = nI 7 from rfl, j_lowest oJ z0 (fun y hy => by cases hy), bnd2_some]
        show bnd2 (fX4_lowestOverloadedPost N Z (J + 1) M2) _ = _
        rw [u3 _ R2, bnd2_some, h8, bnd2_some]
      · cases q3 : aOver (doA A what p l cls tk) with
        | some q => exact jM_res z0 z1
        | none => exact jM_res z0 z1
theorem js4_lt {what p l r d : Nat} (h : js4 A what p l = some (r, d)) : r = 4 := by
  unfold js4 at h; split at h
  · cases h
  · cases h; rfl
theorem js5_lt {what p l r d : Nat} {tk : Bool} (h : js5 A what p l tk = some (r, d)) : r = 5 := by
  unfold js5 at h; repeat' split at h
  all_goals first | cases h; rfl | cases h
theorem j_119 (hN : 5000 ≤ N) (hJ : JudgeAt Z J) (hP : PlanAt Z P) (hWy : WaysAt Z a) (hW : okO Z w0 7 = true) (hd : J + 7 ≤ P ∨ P + 6 ≤ J) (hdw : J + 7 ≤ a ∨ a + 5 ≤ J) (hwJ : w0 < J ∨ J + 6 < w0) {M : mM} (hR : RelP M P A) (hy : WaysR M a A) (w : WF A c) (hc : c + 1 ≤ 1000000) {what p l cls : Nat} {tk : Bool} (hj : JobR M w0 what p l cls tk) (hk5 : what ≤ 5) (hp : p < A 0) (hl1 : 1 ≤ l) (hl : l < 100)
    (ho : js5 A what p l tk = none → OkA A what p l cls tk) (h0 : M.1 J 0 = 0) (h1 : M.1 J 1 = 0) :
    ∃ M', fX3_examine_119 N Z J P a w0 M = some ((), M') ∧ Fr (onT J) M M' ∧ Res M' J (orJ (js4 A what p l) (orJ (js5 A what p l tk) (js6 (doA A what p l cls tk)))) := by
  have e4 := j_standing (N := N) hJ.1 hP hWy hW hR hy w hj hk5 hp hl1 hl
  unfold fX3_examine_119
  rw [ck_t hJ.1, if_pos h0, e4, bnd2_some]
  cases q4 : js4 A what p l with
  | some r =>
    obtain ⟨r, d⟩ := r
    have hr := js4_lt q4
    subst hr
    have hs : (jM M J (some (4, d))).1 J 0 = nI 4 := jM_some
    refine ⟨jM M J (some (4, d)), ?_, jM_frT, jM_res h0 h1⟩
    rw [if_neg (by rw [hs]; decide)]
    exact j_skip153 hJ.1 hs (by omega) (by omega)
  | none =>
    rw [jM_none, orJ_n, if_pos h0, ck_t hW, hj.2.2.2.2, ite_b]
    cases tk with
    | true =>
      have q5 : js5 A what p l true = none := by unfold js5; rw [if_pos rfl]
      rw [if_pos rfl, q5]
      exact j_153 hN hJ hP hW hd hwJ hR w hc hj (ho q5) h0 h1
    | false =>
      rw [if_neg (by decide), j_yard hJ.1 hP hW hR w hj hk5 hp hl, bnd2_some]
      cases q5 : js5 A what p l false with
      | some r =>
        obtain ⟨r, d⟩ := r
        have hr := js5_lt q5
        subst hr
        exact ⟨jM M J (some (5, d)), j_skip153 hJ.1 jM_some (by omega) (by omega), jM_frT, jM_res h0 h1⟩
      | none => exact j_153 hN hJ hP hW hd hwJ hR w hc hj (ho q5) h0 h1
theorem js3_lt {what p l r d : Nat} {tk : Bool} (h : js3 A what p l tk = some (r, d)) : r = 3 := by
  unfold js3 js3l js3d js3h at h; repeat' split at h
  all_goals first | cases h; rfl | cases h
def js3' (A : Row) (what p l : Nat) (tk : Bool) : Option (Nat × Nat) := if what = 2 ∧ tk = true then js3d A p l else if what = 0 ∧ tk = true then js3h A p l else none
theorem js3'_lt {what p l r d : Nat} {tk : Bool} (h : js3' A what p l tk = some (r, d)) : r = 3 := by
  unfold js3' js3d js3h at h; repeat' split at h
  all_goals first | cases h; rfl | cases h
theorem j_64 (hN : 5000 ≤ N) (hJ : JudgeAt Z J) (hP : PlanAt Z P) (hWy : WaysAt Z a) (hW : okO Z w0 7 = true) (hd : J + 7 ≤ P ∨ P + 6 ≤ J) (hdw : J + 7 ≤ a ∨ a + 5 ≤ J) (hwJ : w0 < J ∨ J + 6 < w0) {M : mM} (hR : RelP M P A) (hy : WaysR M a A) (w : WF A c) (hc : c + 1 ≤ 1000000) {what p l cls : Nat} {tk : Bool} (hj : JobR M w0 what p l cls tk) (hk5 : what ≤ 5) (hp : p < A 0) (hl1 : 1 ≤ l) (hl : l < 100)
    (ho : js3' A what p l tk = none → js5 A what p l tk = none → OkA A what p l cls tk) (h0 : M.1 J 0 = 0) (h1 : M.1 J 1 = 0) :
    ∃ M', fX3_examine_64 N Z J P a w0 M = some ((), M') ∧ Fr (onT J) M M' ∧ Res M' J (orJ (js3' A what p l tk) (orJ (js4 A what p l) (orJ (js5 A what p l tk) (js6 (doA A what p l cls tk))))) := by
  have f119 := fun (hh : js3' A what p l tk = none) => j_119 (cls := cls) hN hJ hP hWy hW hd hdw hwJ hR hy w hc hj hk5 hp hl1 hl (ho hh) h0 h1
  have e2 := j_deck (N := N) hJ.1 hP hW hR w hj hp hl
  have e0 := j_pieces (N := N) hJ.1 hP hW hR w hj hp hl
  have i2 : (nI what = (2 : Int32)) ↔ what = 2 := by rw [i_2, i_eq (by omega) (by omega)]
  have i0 : (nI what = (0 : Int32)) ↔ what = 0 := by rw [i_0, i_eq (by omega) (by omega)]
  have fin : ∀ r : Option (Nat × Nat), js3' A what p l tk = r → ∃ M', fX3_examine_119 N Z J P a w0 (jM M J r) = some ((), M') ∧ Fr (onT J) M M' ∧ Res M' J (orJ (js3' A what p l tk) (orJ (js4 A what p l) (orJ (js5 A what p l tk) (js6 (doA A what p l cls tk))))) := by
    intro r hr
    cases r with
    | none => rw [hr, jM_none, orJ_n]; exact f119 hr
    | some q =>
      obtain ⟨r, d⟩ := q
      have := js3'_lt hr
      subst this
      rw [hr, orJ_s]
      exact ⟨jM M J (some (3, d)), j_skip119 hJ.1 jM_some (by omega) (by omega), jM_frT, jM_res h0 h1⟩
  unfold fX3_examine_64
  rw [ck_t hJ.1, if_pos h0, ck_t hW, hj.1, hj.2.2.2.2]
  by_cases q2 : what = 2
  · have q0 : ¬ what = 0 := by omega
    rw [if_pos (i2.2 q2), ite_b]
    cases tk with
    | true =>
      have hs : js3' A what p l true = js3d A p l := by unfold js3'; rw [if_pos ⟨q2, rfl⟩]
      rw [if_pos rfl, e2, bnd2_some]
      obtain ⟨M', x1, x2, x3⟩ := fin _ hs
      refine ⟨M', ?_, x2, x3⟩
      cases q3 : js3d A p l with
      | none =>
        rw [q3, jM_none] at x1
        rw [jM_none, if_pos h0, hj.1, if_neg (fun e => q0 (i0.1 e))]; exact x1
      | some r =>
        obtain ⟨r, d⟩ := r
        have : r = 3 := js3'_lt (hs.trans q3)
        subst this
        rw [q3] at x1
        rw [if_neg (by rw [jM_some]; decide)]; exact x1
    | false =>
      have hs : js3' A what p l false = none := by unfold js3'; rw [if_neg (fun q => Bool.noConfusion q.2), if_neg (fun q => Bool.noConfusion q.2)]
      rw [if_neg (by decide), if_pos h0, if_neg (fun e => q0 (i0.1 e))]
      exact fin none hs
  · rw [if_neg (fun e => q2 (i2.1 e)), if_pos h0]
    by_cases q0 : what = 0
    · rw [if_pos (i0.2 q0), ite_b]
      cases tk with
      | true =>
        have hs : js3' A what p l true = js3h A p l := by unfold js3'; rw [if_neg (fun q => q2 q.1), if_pos ⟨q0, rfl⟩]
        rw [if_pos rfl, e0, bnd2_some]
        exact fin _ hs
      | false =>
        have hs : js3' A what p l false = none := by unfold js3'; rw [if_neg (fun q => Bool.noConfusion q.2), if_neg (fun q => Bool.noConfusion q.2)]
        rw [if_neg (by decide)]
        exact fin none hs
    · have hs : js3' A what p l tk = none := by unfold js3'; rw [if_neg (fun q => q2 q.1), if_neg (fun q => q0 q.1)]
      rw [if_neg (fun e => q0 (i0.1 e))]
      exact fin none hs
theorem j_36 (hN : 5000 ≤ N) (hJ : JudgeAt Z J) (hP : PlanAt Z P) (hWy : WaysAt Z a) (hW : okO Z w0 7 = true) (hd : J + 7 ≤ P ∨ P + 6 ≤ J) (hdw : J + 7 ≤ a ∨ a + 5 ≤ J) (hwJ : w0 < J ∨ J + 6 < w0) {M : mM} (hR : RelP M P A) (hy : WaysR M a A) (w : WF A c) (hc : c + 1 ≤ 1000000) {what p l cls : Nat} {tk : Bool} (hj : JobR M w0 what p l cls tk) (hk5 : what ≤ 5) (hp : p < A 0) (hl1 : 1 ≤ l) (hl : l < 100)
    (ho : js3 A what p l tk = none → js5 A what p l tk = none → OkA A what p l cls tk) (h0 : M.1 J 0 = 0) (h1 : M.1 J 1 = 0) :
    ∃ M', fX3_examine_36 N Z J P a w0 M = some ((), M') ∧ Fr (onT J) M M' ∧ Res M' J (orJ (js3 A what p l tk) (orJ (js4 A what p l) (orJ (js5 A what p l tk) (js6 (doA A what p l cls tk))))) := by
  have e5 := j_ladder (N := N) hJ.1 hP hW hR w hj hp hl1 hl
  have i5 : (nI what = (5 : Int32)) ↔ what = 5 := by rw [i_5, i_eq (by omega) (by omega)]
  unfold fX3_examine_36
  rw [ck_t hJ.1, if_pos h0, ck_t hW, hj.1, hj.2.2.2.2]
  by_cases q : what = 5 ∧ tk = false
  · obtain ⟨q5, rfl⟩ := q
    have hs : js3 A what p l false = js3l A p l := by unfold js3; rw [if_pos ⟨q5, rfl⟩]
    have hs' : js3' A what p l false = none := by unfold js3'; rw [if_neg (fun q => Bool.noConfusion q.2), if_neg (fun q => Bool.noConfusion q.2)]
    rw [if_pos (i5.2 q5), if_pos (by decide), e5, bnd2_some]
    cases q3 : js3l A p l with
    | none =>
      have := j_64 (cls := cls) hN hJ hP hWy hW hd hdw hwJ hR hy w hc hj hk5 hp hl1 hl (fun _ => ho (hs.trans q3)) h0 h1
      rw [hs', orJ_n] at this
      rw [hs, q3, orJ_n]; exact this
    | some r =>
      obtain ⟨r, d⟩ := r
      have : r = 3 := js3_lt (hs.trans q3)
      subst this
      rw [hs, q3, orJ_s]
      exact ⟨jM M J (some (3, d)), j_skip64 hJ.1 jM_some (by omega) (by omega), jM_frT, jM_res h0 h1⟩
  · have hs : js3 A what p l tk = js3' A what p l tk := by unfold js3 js3'; rw [if_neg q]
    have := j_64 (cls := cls) hN hJ hP hWy hW hd hdw hwJ hR hy w hc hj hk5 hp hl1 hl (fun h => ho (hs.trans h)) h0 h1
    rw [hs]
    by_cases q5 : what = 5
    · rw [if_pos (i5.2 q5), if_neg (by
        cases tk with
        | true => decide
        | false => exact absurd ⟨q5, rfl⟩ q)]
      exact this
    · rw [if_neg (fun e => q5 (i5.1 e))]; exact this
/-- the class judges -/
theorem j_examine (hN : 5000 ≤ N) (hJ : JudgeAt Z J) (hP : PlanAt Z P) (hWy : WaysAt Z a) (hW : okO Z w0 7 = true) (hd : J + 7 ≤ P ∨ P + 6 ≤ J) (hdw : J + 7 ≤ a ∨ a + 5 ≤ J) (hwJ : w0 < J ∨ J + 6 < w0) (hwP : w0 < P ∨ P + 5 < w0) (hwa : w0 < a ∨ a + 4 < w0) {M : mM} (hR : RelP M P A) (hy : WaysR M a A) (w : WF A c) (hc : c + 1 ≤ 1000000) {what p cls : Nat} {x : Int32} {tk : Bool}
    (hj : JobX M w0 what p x cls tk) (hk : what = 0 ∨ (2 ≤ what ∧ what ≤ 5)) (hp : p < A 0) (hcl : what = 2 → tk = false → 1 ≤ cls ∧ cls ≤ 4) :
    ∃ M', fX3_examine N Z J P a w0 M = some ((), M') ∧ Fr (onE J w0) M M' ∧ Res M' J (jst A what p (lvA A what p x.toNatClampNeg tk) cls tk) ∧ (jst A what p (lvA A what p x.toNatClampNeg tk) cls tk = none → JobR M' w0 what p (lvA A what p x.toNatClampNeg tk) cls tk ∧ OkA A what p (lvA A what p x.toNatClampNeg tk) cls tk) := by
  obtain ⟨l, hl⟩ : ∃ l, l = lvA A what p x.toNatClampNeg tk := ⟨_, rfl⟩
  rw [← hl]
  have hk5 : what ≤ 5 := by omega
  have h10 := w.1
  obtain ⟨M0, hM0⟩ : ∃ M0, M0 = sI (sI M J 0 0) J 1 0 := ⟨_, rfl⟩
  have f0 : Fr (onJ J) M M0 := by rw [hM0]; exact (Fr.put (P := onJ J) ⟨rfl, by omega⟩).trans (Fr.put ⟨rfl, by omega⟩)
  have R0 : RelP M0 P A := hR.fr f0 (fun y j h1 h2 h3 => by have := h3.1; omega)
  have Y0 : WaysR M0 a A := hy.fr f0 (fun y j h1 h2 h3 => by have := h3.1; omega)
  have J0 : JobX M0 w0 what p x cls tk := hj.fr f0 (fun j h3 => by have := h3.1; omega)
  have z0 : M0.1 J 0 = 0 := by rw [hM0, sI_ne _ _ (by omega), sI_same]
  have z1 : M0.1 J 1 = 0 := by rw [hM0, sI_same]
  have e1 := j_level (N := N) hJ.1 hP hW R0 w J0 hk5 hp
  rw [← hl] at e1
  obtain ⟨M1, hM1⟩ : ∃ M1, M1 = (if what = 0 then sI M0 w0 2 (nI l) else M0) := ⟨_, rfl⟩
  rw [← hM1] at e1
  have f1 : Fr (fun y j => y = w0 ∧ j = 2) M0 M1 := by
    rw [hM1]
    by_cases q : what = 0
    · rw [if_pos q]; exact Fr.put (P := fun y j => y = w0 ∧ j = 2) ⟨rfl, rfl⟩
    · rw [if_neg q]; exact Fr.rfl
  have R1 : RelP M1 P A := R0.fr f1 (fun y j h1 h2 h3 => by have := h3.1; omega)
  have Y1 : WaysR M1 a A := Y0.fr f1 (fun y j h1 h2 h3 => by have := h3.1; omega)
  have y0 : M1.1 J 0 = 0 := by rw [f1.1 J 0 (fun h => by have := h.1; omega)]; exact z0
  have y1 : M1.1 J 1 = 0 := by rw [f1.1 J 1 (fun h => by have := h.1; omega)]; exact z1
  have F1 : Fr (onE J w0) M M1 := (f0.mono (fun y j h => Or.inl h)).trans (f1.mono (fun y j h => Or.inr (Or.inr h)))
  have FT : ∀ M', Fr (onT J) M1 M' → Fr (onE J w0) M M' := fun M' h => F1.trans (h.mono (fun y j h => h.elim Or.inl (fun q => Or.inr (Or.inl q))))
  have K1 : js1 A what p l tk = none → JobR M1 w0 what p l cls tk := fun h => by
    have hl1 := (js1_none w hp h).1
    obtain ⟨j0, j1, j2, j3, j4⟩ := J0
    by_cases q : what = 0
    · rw [hM1, if_pos q]
      exact ⟨by rw [sI_ne _ _ (by omega)]; exact j0, by rw [sI_ne _ _ (by omega)]; exact j1, sI_same _ _ _ _, by rw [sI_ne _ _ (by omega)]; exact j3, by rw [sI_ne _ _ (by omega)]; exact j4⟩
    · rw [hM1, if_neg q]
      have hx : l = x.toNatClampNeg := by rw [hl]; unfold lvA; rw [if_neg q]
      refine ⟨j0, j1, ?_, j3, j4⟩
      rcases i32_cases x with hn | ⟨l', hl', rfl⟩
      · rw [clampNeg hn] at hx; omega
      · rw [i_cl hl'] at hx; rw [hx]; exact j2
  have start : ∀ M', (if (jM M1 J (js1 A what p l tk)).1 J 0 = 0 then ck (okO Z w0 7) (if (jM M1 J (js1 A what p l tk)).1 w0 0 = 0 then fX3_examine_36 N Z J P a w0 (jM M1 J (js1 A what p l tk)) else bnd2 (fX3_examinePlace N Z J P w0 (jM M1 J (js1 A what p l tk))) (fun _ M58 => fX3_examine_36 N Z J P a w0 M58)) else fX3_examine_36 N Z J P a w0 (jM M1 J (js1 A what p l tk))) = some ((), M') → fX3_examine N Z J P a w0 M = some ((), M') := fun M' h => by
    unfold fX3_examine
    rw [ck_t hJ.1, ← hM0, e1, bnd2_some]
    exact h
  unfold jst
  cases q1 : js1 A what p l tk with
  | some r =>
    obtain ⟨r, d⟩ := r
    have hr : r = 1 := by
      unfold js1 at q1
      by_cases q : l < 1 ∨ (if what = 0 ∧ tk = false then 6 else hFor A what p) < l
      · rw [if_pos q] at q1; cases q1; rfl
      · rw [if_neg q] at q1; cases q1
    subst hr
    refine ⟨jM M1 J (some (1, d)), start _ ?_, FT _ jM_frT, by rw [orJ_s]; exact jM_res y0 y1, fun h => by cases h⟩
    rw [q1, if_neg (by rw [jM_some]; decide)]
    exact j_skip36 hJ.1 jM_some (by omega) (by omega)
  | none =>
    have hj1 := K1 q1
    have hll := js1_none w hp q1
    rw [q1, jM_none, if_pos y0, ck_t hW, hj1.1] at start
    have ok : js2 A what p l tk = none → js3 A what p l tk = none → js5 A what p l tk = none → OkA A what p l cls tk := fun a b c => jst_ok w hp hk hl hcl q1 a b c
    have main : js2 A what p l tk = none → ∃ M', fX3_examine_36 N Z J P a w0 M1 = some ((), M') ∧ Fr (onE J w0) M M' ∧ Res M' J (orJ none (orJ (js2 A what p l tk) (orJ (js3 A what p l tk) (orJ (js4 A what p l) (orJ (js5 A what p l tk) (js6 (doA A what p l cls tk))))))) ∧ (orJ none (orJ (js2 A what p l tk) (orJ (js3 A what p l tk) (orJ (js4 A what p l) (orJ (js5 A what p l tk) (js6 (doA A what p l cls tk)))))) = none → JobR M' w0 what p l cls tk ∧ OkA A what p l cls tk) := fun q2 => by
      obtain ⟨M', c1, c2, c3⟩ := j_36 (cls := cls) hN hJ hP hWy hW hd hdw hwJ R1 Y1 w hc hj1 hk5 hp hll.1 (by omega) (ok q2) y0 y1
      rw [q2, orJ_n, orJ_n]
      refine ⟨M', c1, FT _ c2, c3, fun h => ?_⟩
      have h3 := orJ_none h
      have h4 := orJ_none h3.2
      have h5 := orJ_none h4.2
      exact ⟨JobX.fr (x := nI l) hj1 c2 (fun j h => by
        rcases h with h | h
        · have := h.1; omega
        · have := h.1; have := h.2; omega), ok q2 h3.1 h5.1⟩
    by_cases q0 : what = 0
    · have q2 : js2 A what p l tk = none := by unfold js2; rw [if_neg (fun q => q.1 q0)]
      obtain ⟨M', c1, c2, c3, c4⟩ := main q2
      refine ⟨M', start M' ?_, c2, c3, c4⟩
      rw [if_pos (by rw [q0]; rfl)]; exact c1
    · rw [if_neg (by rw [i_0, i_eq (by omega) (by omega)]; exact q0), j_place hJ.1 hP hW R1 w hj1 (by omega) hk5 hp (by omega), bnd2_some] at start
      cases q2 : js2 A what p l tk with
      | none =>
        obtain ⟨M', c1, c2, c3, c4⟩ := main q2
        rw [q2] at c3 c4
        rw [q2, jM_none] at start
        exact ⟨M', start M' c1, c2, c3, c4⟩
      | some r =>
        obtain ⟨r, d⟩ := r
        have hr : r = 2 := by
          unfold js2 at q2; split at q2
          · cases q2; rfl
          · cases q2
        subst hr
        rw [q2] at start
        exact ⟨jM M1 J (some (2, d)), start _ (j_skip36 hJ.1 jM_some (by omega) (by omega)), FT _ jM_frT, by rw [orJ_n, orJ_s]; exact jM_res y0 y1, fun h => by cases h⟩
end JX
