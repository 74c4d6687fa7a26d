/-! ===== LAYER 3: what is kept for undo ===== -/
def kpH (H : Nat → Row) (n : Nat) (A : Row) : Nat → Row := if n = 8 then (fun i => if i < 7 then H (i + 1) else A) else (fun i => if i = n then A else H i)
def kpN (n : Nat) : Nat := if n = 8 then 8 else n + 1
def CHn (M : mM) (H : Nat → Row) (n nx : Nat) : Prop := n ≤ 8 ∧ nx < 8 ∧ M.1 27 0 = nI n ∧ M.1 27 1 = nI nx ∧ ∀ i, i < n → RelP M (29 + 6 * ((nx + 8 - n + i) % 8)) (H i)
def CHs (M : mM) (H : Nat → Row) (n : Nat) : Prop := ∃ nx, CHn M H n nx
def onK (a j : Nat) : Prop := (a = 27 ∧ j < 2) ∨ (29 ≤ a ∧ a ≤ 76) ∨ (a = 93 ∧ j = 2)
theorem CHs.fr {P : Nat → Nat → Prop} {M M' : mM} {H : Nat → Row} {n : Nat} (h : CHs M H n) (s : Fr P M M') (h0 : ¬ P 27 0) (h1 : ¬ P 27 1) (h2 : ∀ a j, 29 ≤ a → a ≤ 76 → ¬ P a j) : CHs M' H n := by
  obtain ⟨nx, a1, a2, a3, a4, a5⟩ := h
  exact ⟨nx, a1, a2, by rw [s.1 _ _ h0]; exact a3, by rw [s.1 _ _ h1]; exact a4, fun i hi => (a5 i hi).fr s (fun a j b1 b2 => h2 a j (by omega) (by omega))⟩
theorem CHs.zero {M : mM} {H : Nat → Row} {n : Nat} (h : CHs M H n) : CHs (sI M 27 0 0) H 0 := by
  obtain ⟨nx, a1, a2, a3, a4, a5⟩ := h
  exact ⟨nx, by omega, a2, sI_same _ _ _ _, by rw [sI_ne _ _ (by omega)]; exact a4, fun i hi => absurd hi (by omega)⟩
def HistAt (Z : mZ) : Prop := okO Z 27 2 = true ∧ Z.2.2.2 27 2 = some 28 ∧ okO Z 28 24 = true ∧ Z.2.2.1 28 = 8 ∧ ∀ i, i < 8 → Z.2.2.2 28 i = some (29 + 6 * i) ∧ PlanAt Z (29 + 6 * i)
theorem wrap7 {nx : Nat} (h : nx < 8) : (if nI nx = (7 : Int32) then (0 : Int32) else nI nx + 1) = nI (if nx = 7 then 0 else nx + 1) := by
  by_cases c : nx = 7
  · rw [if_pos (by rw [c]; rfl), if_pos c]; rfl
  · rw [if_neg (by rw [i_7, i_eq (by omega) (by omega)]; exact c), if_neg c, nI_1]
section HI
variable {N : Nat} {Z : mZ} {A : Row} {c n : Nat} {H : Nat → Row}
theorem h_planAt (hH : HistAt Z) {M : mM} {i : Nat} (hi : i < 8) : fX2_planAt N Z 27 (nI i) M = some (some (29 + 6 * i), M) := by
  obtain ⟨o1, o2, o3, o4, o5⟩ := hH
  unfold fX2_planAt
  rw [if_neg (nI_pos (by omega)), ck_t o1, o2, bnd1_some, ck_t o3, o4, if_neg (by rw [i_ofNat, i_le (by omega) (by omega)]; omega), ck_t (by rw [i_inB (by omega)]; exact decide_eq_true hi), i_cl (by omega), (o5 i hi).1, bnd1_some]
theorem h_keep (hN : 5000 ≤ N) (hH : HistAt Z) (hP : PlanAt Z 9) {M : mM} (hR : RelP M 9 A) (h : CHs M H n) : ∃ M', fX2_keep N Z 27 9 M = some ((), M') ∧ CHs M' (kpH H n A) (kpN n) ∧ Fr (fun a j => (a = 27 ∧ j < 2) ∨ (29 ≤ a ∧ a ≤ 76)) M M' := by
  obtain ⟨nx, a1, a2, a3, a4, a5⟩ := h
  have hs := (hH.2.2.2.2 nx a2).2
  have s1 : Same (inP (29 + 6 * nx)) M (cpM M (29 + 6 * nx) 9) := cpM_same
  have m0 : (cpM M (29 + 6 * nx) 9).1 27 0 = nI n := by rw [s1.1 27 (fun e => by have := e.1; omega)]; exact a3
  have m1 : (cpM M (29 + 6 * nx) 9).1 27 1 = nI nx := by rw [s1.1 27 (fun e => by have := e.1; omega)]; exact a4
  obtain ⟨nx', hx⟩ : ∃ y, y = (if nx = 7 then 0 else nx + 1) := ⟨_, rfl⟩
  have hx8 : nx' < 8 := by rw [hx]; split <;> omega
  have hxm : nx' = (nx + 1) % 8 := by rw [hx]; split <;> omega
  have hcnt : (if (8 : Int32) < nI (n + 1) then (8 : Int32) else nI (n + 1)) = nI (kpN n) := by
    unfold kpN
    by_cases q : n = 8
    · rw [if_pos (by rw [q]; decide), if_pos q]; rfl
    · rw [if_neg (by rw [i_8, i_lt (by omega) (by omega)]; omega), if_neg q]
  refine ⟨sI (sI (cpM M (29 + 6 * nx) 9) 27 1 (nI nx')) 27 0 (nI (kpN n)), ?_, ⟨nx', ?_, hx8, sI_same _ _ _ _, by rw [sI_ne _ _ (by omega), sI_same], fun i hi => ?_⟩, ?_⟩
  · unfold fX2_keep
    rw [ck_t hH.1, a4, h_planAt hH a2, bndR_some, ck_t hs.1, k_copy hN hs hP (by omega), bnd2_some, m1]
    have w := wrap7 a2
    rw [← hx] at w
    by_cases q : nI nx = (7 : Int32)
    · rw [if_pos q] at w ⊢
      rw [w, sI_ne _ _ (show ¬ ((27 : Nat) = 27 ∧ (0 : Nat) = 1) by omega), m0, nI_1, hcnt]
    · rw [if_neg q] at w ⊢
      rw [w, sI_ne _ _ (show ¬ ((27 : Nat) = 27 ∧ (0 : Nat) = 1) by omega), m0, nI_1, hcnt]
  · unfold kpN; split <;> omega
  · have f2 : Same (fun a => a = 27) (cpM M (29 + 6 * nx) 9) (sI (sI (cpM M (29 + 6 * nx) 9) 27 1 (nI nx')) 27 0 (nI (kpN n))) := (Same.put (S := fun a => a = 27) rfl).trans (Same.put rfl)
    have new : RelP (sI (sI (cpM M (29 + 6 * nx) 9) 27 1 (nI nx')) 27 0 (nI (kpN n))) (29 + 6 * nx) A := (cpM_rel hR).same f2 (fun a b1 b2 b3 => by omega)
    have old : ∀ i, i < n → (nx + 8 - n + i) % 8 ≠ nx → RelP (sI (sI (cpM M (29 + 6 * nx) 9) 27 1 (nI nx')) 27 0 (nI (kpN n))) (29 + 6 * ((nx + 8 - n + i) % 8)) (H i) := fun i hi hne =>
      ((a5 i hi).same s1 (fun a b1 b2 b3 => by have := b3.1; have := b3.2; omega)).same f2 (fun a b1 b2 b3 => by omega)
    revert new old
    generalize sI (sI (cpM M (29 + 6 * nx) 9) 27 1 (nI nx')) 27 0 (nI (kpN n)) = Mf
    intro new old
    unfold kpH
    unfold kpN at hi ⊢
    by_cases q : n = 8
    · rw [if_pos q] at hi
      rw [if_pos q, if_pos q]
      by_cases q2 : i < 7
      · have := old (i + 1) (by omega) (by omega)
        show RelP _ _ (if i < 7 then H (i + 1) else A)
        rw [if_pos q2, show (nx' + 8 - 8 + i) % 8 = (nx + 8 - n + (i + 1)) % 8 by omega]; exact this
      · show RelP _ _ (if i < 7 then H (i + 1) else A)
        rw [if_neg q2, show (nx' + 8 - 8 + i) % 8 = nx by omega]; exact new
    · rw [if_neg q] at hi
      rw [if_neg q, if_neg q]
      by_cases q2 : i = n
      · show RelP _ _ (if i = n then A else H i)
        rw [if_pos q2, show (nx' + 8 - (n + 1) + i) % 8 = nx by omega]; exact new
      · show RelP _ _ (if i = n then A else H i)
        rw [if_neg q2, show (nx' + 8 - (n + 1) + i) % 8 = (nx + 8 - n + i) % 8 by omega]; exact old i (by omega) (by omega)
  · refine ((s1.fr.mono (fun a j e => Or.inr ⟨by have := e.1; omega, by have := e.2; omega⟩)).trans (Fr.put (Or.inl ⟨rfl, by omega⟩))).trans (Fr.put (Or.inl ⟨rfl, by omega⟩))
theorem k_keepChange (hN : 5000 ≤ N) (hC : ClsAt Z) {M : mM} (hR : RelP M 9 A) (h : CHs M H n) : ∃ M', fX8_keepChange N Z 8 M = some ((), M') ∧ CHs M' (kpH H n A) (kpN n) ∧ M'.1 93 2 = 0 ∧ Fr onK M M' := by
  obtain ⟨o8, ⟨r0, -, -, r4, -, -, -, -, r9, -⟩, ⟨p9, -⟩, hH, -, -, -, -, ⟨o93, -⟩, -⟩ := hC
  obtain ⟨M1, e1, h1, f1⟩ := h_keep (N := N) hN hH p9 hR h
  refine ⟨sI M1 93 2 0, ?_, h1.fr (Fr.put (P := fun a j => a = 93) rfl) (by omega) (by omega) (fun a j b1 b2 b3 => by omega), sI_same _ _ _ _, (f1.mono (fun a j e => e.elim Or.inl (fun x => Or.inr (Or.inl x)))).trans (Fr.put (Or.inr (Or.inr ⟨rfl, rfl⟩)))⟩
  unfold fX8_keepChange
  rw [ck_t o8, r4, bnd1_some, r0, bnd1_some, ck_t hH.1, e1, bnd2_some, r9, bnd1_some, ck_t o93]
/-- one step back -/
theorem h_takeBack (hN : 5000 ≤ N) (hH : HistAt Z) (hP : PlanAt Z 9) {M : mM} (h : CHs M H n) (hn : 0 < n) : ∃ M', fX2_takeBack N Z 27 9 M = some ((), M') ∧ CHs M' H (n - 1) ∧ RelP M' 9 (H (n - 1)) ∧ M'.1 27 0 = nI (n - 1) ∧ Fr (fun a j => (a = 27 ∧ j < 2) ∨ inP 9 a) M M' := by
  obtain ⟨nx, a1, a2, a3, a4, a5⟩ := h
  obtain ⟨nx', hx⟩ : ∃ y, y = (if nx = 0 then 7 else nx - 1) := ⟨_, rfl⟩
  have hx8 : nx' < 8 := by rw [hx]; split <;> omega
  have hxm : nx' = (nx + 7) % 8 := by rw [hx]; split <;> omega
  have hs := (hH.2.2.2.2 nx' hx8).2
  have s1 : Same (inP 9) M (cpM M 9 (29 + 6 * nx')) := cpM_same
  have m0 : (cpM M 9 (29 + 6 * nx')).1 27 0 = nI n := by rw [s1.1 27 (fun e => by have := e.1; have := e.2; omega)]; exact a3
  have hr := a5 (n - 1) (by omega)
  rw [show (nx + 8 - n + (n - 1)) % 8 = nx' by omega] at hr
  have nn : nI n - 1 = nI (n - 1) := i_sub (b := 1) hn
  have f2 : Same (fun a => a = 27) (cpM M 9 (29 + 6 * nx')) (sI (sI (cpM M 9 (29 + 6 * nx')) 27 1 (nI nx')) 27 0 (nI (n - 1))) := (Same.put (S := fun a => a = 27) rfl).trans (Same.put rfl)
  have e18 : fX2_takeBack_18 N Z 27 9 (nI nx') M = some ((), sI (sI (cpM M 9 (29 + 6 * nx')) 27 1 (nI nx')) 27 0 (nI (n - 1))) := by
    unfold fX2_takeBack_18
    rw [ck_t hH.1, h_planAt hH hx8, bndR_some, a3, if_neg (by rw [i_0, i_eq (by omega) (by omega)]; omega), ck_t hP.1, k_copy hN hP hs (by omega), bnd2_some, sI_ne _ _ (show ¬ ((27 : Nat) = 27 ∧ (0 : Nat) = 1) by omega), m0, nn]
  refine ⟨_, ?_, ⟨nx', by omega, hx8, sI_same _ _ _ _, by rw [sI_ne _ _ (by omega), sI_same], fun i hi => ?_⟩, (cpM_rel hr).same f2 (fun a b1 b2 b3 => by omega), sI_same _ _ _ _, ?_⟩
  · unfold fX2_takeBack
    rw [ck_t hH.1, a4]
    by_cases q : nx = 0
    · rw [if_pos (by rw [q]; rfl)]
      rw [if_pos q] at hx
      rw [hx] at e18 ⊢
      exact e18
    · rw [if_neg (by rw [i_0, i_eq (by omega) (by omega)]; exact q), show nI nx - 1 = nI (nx - 1) from i_sub (b := 1) (by omega)]
      rw [if_neg q] at hx
      rw [hx] at e18 ⊢
      exact e18
  · have := a5 i (by omega)
    rw [show (nx' + 8 - (n - 1) + i) % 8 = (nx + 8 - n + i) % 8 by omega]
    exact (this.same s1 (fun a b1 b2 b3 => by have := b3.1; have := b3.2; omega)).same f2 (fun a b1 b2 b3 => by omega)
  · exact ((s1.fr.mono (fun a j e => Or.inr e)).trans (Fr.put (Or.inl ⟨rfl, by omega⟩))).trans (Fr.put (Or.inl ⟨rfl, by omega⟩))
end HI
/-! the reference's -/
def PM (M : mM) (H : Nat → Row) (n : Nat) : Prop := n ≤ 8 ∧ M.1 116 6 = nI n ∧ ∀ i, i < n → ∀ j, j < 121 → M.1 121 (121 * i + j) = nI (H i j)
theorem PM.fr {P : Nat → Nat → Prop} {M M' : mM} {H : Nat → Row} {n : Nat} (h : PM M H n) (s : Fr P M M') (h0 : ¬ P 116 6) (h1 : ∀ j, ¬ P 121 j) : PM M' H n :=
  ⟨h.1, by rw [s.1 _ _ h0]; exact h.2.1, fun i hi j hj => by rw [s.1 _ _ (h1 _)]; exact h.2.2 i hi j hj⟩
def putM (M : mM) (r o : Nat) (g : Nat → Int32) (n : Nat) : mM := (fun a j => if a = r ∧ o ≤ j ∧ j < o + n then g (j - o) else M.1 a j, M.2)
theorem putM_0 {M : mM} {r o : Nat} {g : Nat → Int32} : putM M r o g 0 = M := by
  unfold putM
  have h : (fun (a j : Nat) => if a = r ∧ o ≤ j ∧ j < o + 0 then g (j - o) else M.1 a j) = M.1 := by
    funext a j; rw [if_neg (by omega)]
  rw [h]
theorem putM_s {M : mM} {r o : Nat} {g : Nat → Int32} {n : Nat} {v : Int32} (hv : v = g n) : sI (putM M r o g n) r (o + n) v = putM M r o g (n + 1) := by
  unfold putM sI
  refine Prod.ext ?_ rfl
  funext a j
  show (if a = r ∧ j = o + n then v else if a = r ∧ o ≤ j ∧ j < o + n then g (j - o) else M.1 a j) = if a = r ∧ o ≤ j ∧ j < o + (n + 1) then g (j - o) else M.1 a j
  by_cases h : a = r ∧ j = o + n
  · rw [if_pos h, if_pos ⟨h.1, by omega, by omega⟩, hv, show j - o = n by omega]
  · rw [if_neg h]
    by_cases h2 : a = r ∧ o ≤ j ∧ j < o + n
    · rw [if_pos h2, if_pos ⟨h2.1, by omega, by omega⟩]
    · rw [if_neg h2, if_neg (by omega)]
theorem putM_ne {M : mM} {r o a j : Nat} {g : Nat → Int32} {n : Nat} (h : ¬ (a = r ∧ o ≤ j ∧ j < o + n)) : (putM M r o g n).1 a j = M.1 a j := by
  show (if a = r ∧ o ≤ j ∧ j < o + n then g (j - o) else M.1 a j) = _
  rw [if_neg h]
theorem putM_in {M : mM} {r o j : Nat} {g : Nat → Int32} {n : Nat} (h : j < n) : (putM M r o g n).1 r (o + j) = g j := by
  show (if r = r ∧ o ≤ o + j ∧ o + j < o + n then g (o + j - o) else M.1 r (o + j)) = _
  rw [if_pos ⟨rfl, by omega, by omega⟩, show o + j - o = j by omega]
theorem putM_fr {P : Nat → Nat → Prop} {M : mM} {r o : Nat} {g : Nat → Int32} {n : Nat} (h : ∀ j, P r j) : Fr P M (putM M r o g n) := ⟨fun a j ha => putM_ne (fun q => ha (by rw [q.1]; exact h j)), Eq.refl _⟩
theorem fillA_hi {M : mM} {r a j : Nat} {g : Nat → Int32} {n : Nat} (h : n ≤ j) : (fillA M r g n).1 a j = M.1 a j := by
  show (if a = r ∧ j < n then g j else M.1 a j) = _
  rw [if_neg (by omega)]
section HM
variable {N : Nat} {Z : mZ} {A : Row} {c n : Nat} {H : Nat → Row}
theorem m_chg51 (hM : ModAt Z) {r : Nat} (or : okI Z r = true) (lr : Z.2.2.1 r = 121) (hr : r ≠ 121) (hr6 : r ≠ 116) {m : Nat} (hm : m < 8) {M : mM} (h6 : M.1 116 6 = nI m) : ∀ (j i fu : Nat), i + j = 121 → j < fu →
    fX9_changes_51 N Z fu 116 r (nI i) (putM M 121 (121 * m) (M.1 r) i) = some ((), sI (putM M 121 (121 * m) (M.1 r) 121) 116 6 (nI (m + 1))) := by
  obtain ⟨o1, ⟨-, -, -, -, r5, -⟩, -, -, -, -, ⟨a4, a5, a6⟩, -⟩ := hM
  intro j
  induction j with
  | zero =>
    intro i fu h2 h3
    obtain ⟨fu, rfl⟩ : ∃ q, fu = q + 1 := ⟨fu - 1, by omega⟩
    have hi : i = 121 := by omega
    subst hi
    rw [fX9_changes_51, if_pos (by decide), ck_t o1, putM_ne (by omega), h6, nI_1]
  | succ j ih =>
    intro i fu h2 h3
    obtain ⟨fu, rfl⟩ : ∃ q, fu = q + 1 := ⟨fu - 1, by omega⟩
    have hi := ih (i + 1) fu (by omega) (by omega)
    have q : (121 : Int32) * nI m + nI i = nI (121 * m + i) := by rw [i_121, pk_mul, nI_add]
    rw [fX9_changes_51, if_neg (by rw [i_121, i_le (by omega) (by omega)]; omega), ck_t o1, r5, bnd1_some, ck_t or, lr, ck_t (by rw [i_inB (by omega)]; exact decide_eq_true (by omega)), ck_t a4, putM_ne (show ¬ ((116 : Nat) = 121 ∧ 121 * m ≤ 6 ∧ 6 < 121 * m + i) by omega), h6, q, a6, ck_t (by rw [i_inB (by omega)]; exact decide_eq_true (by omega)), i_cl (by omega), i_cl (by omega), putM_ne (show ¬ (r = 121 ∧ 121 * m ≤ i ∧ i < 121 * m + i) by omega), putM_s rfl, nI_1]
    exact hi
theorem m_chg11 (hM : ModAt Z) {r : Nat} {M : mM} (h6 : M.1 116 6 = nI 8) : ∀ (j i fu : Nat), i + j = 847 → j < fu →
    fX9_changes_11 N Z fu 116 r (nI i) (fillA M 121 (fun j => M.1 121 (j + 121)) i) = fX9_changes_51 N Z N 116 r 0 (sI (fillA M 121 (fun j => M.1 121 (j + 121)) 847) 116 6 (nI 7)) := by
  obtain ⟨o1, ⟨-, -, -, -, r5, -⟩, -, -, -, -, ⟨a4, a5, a6⟩, -⟩ := hM
  intro j
  induction j with
  | zero =>
    intro i fu h2 h3
    obtain ⟨fu, rfl⟩ : ∃ q, fu = q + 1 := ⟨fu - 1, by omega⟩
    have hi : i = 847 := by omega
    subst hi
    rw [fX9_changes_11, if_pos (by decide), ck_t o1, fillA_ne (by omega), h6]
    rfl
  | succ j ih =>
    intro i fu h2 h3
    obtain ⟨fu, rfl⟩ : ∃ q, fu = q + 1 := ⟨fu - 1, by omega⟩
    have hi := ih (i + 1) fu (by omega) (by omega)
    have q : nI i + (121 : Int32) = nI (i + 121) := nI_add i 121
    rw [fX9_changes_11, if_neg (by rw [i_847, i_le (by omega) (by omega)]; omega), ck_t o1, r5, bnd1_some, ck_t a5, q, a6, ck_t (by rw [i_inB (by omega)]; exact decide_eq_true (by omega)), ck_t a4, ck_t (by rw [i_inB (by omega)]; exact decide_eq_true (by omega)), i_cl (by omega), i_cl (by omega), fillA_hi (by omega), fillA_s (g := fun j => M.1 121 (j + 121)) rfl, nI_1]
    exact hi
def onP (a j : Nat) : Prop := a = 121 ∨ (a = 116 ∧ j = 6)
theorem m_changes (hN : 5000 ≤ N) (hM : ModAt Z) {r : Nat} (or : okI Z r = true) (lr : Z.2.2.1 r = 121) (hr : r ≠ 121) (hr6 : r ≠ 116) {M : mM} (hR : RowAt M r A) (h : PM M H n) : ∃ M', fX9_changes N Z 116 r M = some ((), M') ∧ PM M' (kpH H n A) (kpN n) ∧ Fr onP M M' := by
  obtain ⟨h1, h2, h3⟩ := h
  have tail : ∀ (M1 : mM) (m : Nat), m < 8 → M1.1 116 6 = nI m → RowAt M1 r A → (∀ i, i < m → ∀ j, j < 121 → M1.1 121 (121 * i + j) = nI (kpH H n A i j)) → kpN n = m + 1 → (∀ j, kpH H n A m j = A j) → Fr onP M M1 →
      ∃ M', fX9_changes_51 N Z N 116 r 0 M1 = some ((), M') ∧ PM M' (kpH H n A) (kpN n) ∧ Fr onP M M' := by
    intro M1 m hm h6 hR1 hk hkn hA f
    have e := m_chg51 (N := N) hM or lr hr hr6 hm h6 121 0 N (by omega) (by omega)
    rw [putM_0] at e
    refine ⟨_, e, ⟨by omega, by rw [hkn]; exact sI_same _ _ _ _, fun i hi j hj => ?_⟩, (f.trans (putM_fr (fun j => Or.inl rfl))).trans (Fr.put (Or.inr ⟨rfl, rfl⟩))⟩
    rw [sI_ne _ _ (by omega)]
    by_cases q : i = m
    · rw [q, putM_in hj, hA]; exact hR1 j hj
    · rw [putM_ne (by omega)]; exact hk i (by omega) j hj
  unfold fX9_changes
  rw [ck_t hM.1, h2]
  by_cases q : n = 8
  · rw [if_pos (by rw [q]; rfl)]
    have e := m_chg11 (N := N) (r := r) hM (M := M) (by rw [h2, q]) 847 0 N (by omega) (by omega)
    rw [fillA_0] at e
    obtain ⟨M', x1, x2, x3⟩ := tail (sI (fillA M 121 (fun j => M.1 121 (j + 121)) 847) 116 6 (nI 7)) 7 (by omega) (sI_same _ _ _ _) (fun i hi => by rw [sI_ne _ _ (by omega), fillA_ne hr]; exact hR i hi)
      (fun i hi j hj => by
        rw [sI_ne _ _ (by omega), fillA_in (by omega)]
        unfold kpH
        rw [if_pos q]
        show _ = nI ((if i < 7 then H (i + 1) else A) j)
        rw [if_pos hi, show 121 * i + j + 121 = 121 * (i + 1) + j by omega]; exact h3 (i + 1) (by omega) j hj)
      (by unfold kpN; rw [if_pos q]) (fun j => by
        unfold kpH
        rw [if_pos q]
        show (if 7 < 7 then H (7 + 1) else A) j = A j
        rw [if_neg (by omega)]) (((Same.fill (S := fun x => x = 121) rfl).fr.mono (fun a j h => Or.inl h)).trans (Fr.put (Or.inr ⟨rfl, rfl⟩)))
    exact ⟨M', e.trans x1, x2, x3⟩
  · rw [if_neg (by rw [i_8, i_eq (by omega) (by omega)]; exact q)]
    exact tail M n (by omega) h2 hR (fun i hi j hj => by
      unfold kpH
      rw [if_neg q]
      show _ = nI ((if i = n then A else H i) j)
      rw [if_neg (by omega)]; exact h3 i hi j hj) (by unfold kpN; rw [if_neg q]) (fun j => by
      unfold kpH
      rw [if_neg q]
      show (if n = n then A else H n) j = A j
      rw [if_pos rfl]) Fr.rfl
theorem m_undo37 (hM : ModAt Z) {m : Nat} (hm : m < 8) {M : mM} (h6 : M.1 116 6 = nI m) : ∀ (j i fu : Nat), i + j = 121 → j < fu →
    fX9_undo_37 N Z fu 116 (nI i) (fillA M 117 (fun j => M.1 121 (121 * m + j)) i) = some (nI m, fillA M 117 (fun j => M.1 121 (121 * m + j)) 121) := by
  obtain ⟨o1, ⟨r0, -, -, -, r5, -⟩, ⟨g4, g5, g6⟩, -, -, -, ⟨a4, a5, a6⟩, -⟩ := hM
  intro j
  induction j with
  | zero =>
    intro i fu h2 h3
    obtain ⟨fu, rfl⟩ : ∃ q, fu = q + 1 := ⟨fu - 1, by omega⟩
    have hi : i = 121 := by omega
    subst hi
    rw [fX9_undo_37, if_pos (by decide), ck_t o1, fillA_ne (by omega), h6]
  | succ j ih =>
    intro i fu h2 h3
    obtain ⟨fu, rfl⟩ : ∃ q, fu = q + 1 := ⟨fu - 1, by omega⟩
    have hi := ih (i + 1) fu (by omega) (by omega)
    have q : (121 : Int32) * nI m + nI i = nI (121 * m + i) := by rw [i_121, pk_mul, nI_add]
    rw [fX9_undo_37, if_neg (by rw [i_121, i_le (by omega) (by omega)]; omega), ck_t o1, r0, bnd1_some, r5, bnd1_some, ck_t a5, fillA_ne (show (116 : Nat) ≠ 117 by omega), h6, q, a6, ck_t (by rw [i_inB (by omega)]; exact decide_eq_true (by omega)), ck_t g4, g6, ck_t (by rw [i_inB (by omega)]; exact decide_eq_true (by omega)), i_cl (by omega), i_cl (by omega), fillA_ne (show (121 : Nat) ≠ 117 by omega), fillA_s (g := fun j => M.1 121 (121 * m + j)) rfl, nI_1]
    exact hi
end HM
