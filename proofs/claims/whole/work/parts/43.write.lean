/-! ===== LAYER 3: the class's plan: what is written ===== -/
def fillA (M : mM) (r : Nat) (g : Nat → Int32) (n : Nat) : mM := (fun a j => if a = r ∧ j < n then g j else M.1 a j, M.2)
theorem fillA_0 {M : mM} {r : Nat} {g : Nat → Int32} : fillA M r g 0 = M := by
  unfold fillA
  have h : (fun (a j : Nat) => if a = r ∧ j < 0 then g j else M.1 a j) = M.1 := by
    funext a j; rw [if_neg (by omega)]
  rw [h]
theorem fillA_s {M : mM} {r : Nat} {g : Nat → Int32} {n : Nat} {v : Int32} (hv : v = g n) : sI (fillA M r g n) r n v = fillA M r g (n + 1) := by
  unfold fillA sI
  refine Prod.ext ?_ rfl
  funext a j
  show (if a = r ∧ j = n then v else if a = r ∧ j < n then g j else M.1 a j) = if a = r ∧ j < n + 1 then g j else M.1 a j
  by_cases h : a = r ∧ j = n
  · rw [if_pos h, if_pos ⟨h.1, by omega⟩, hv, h.2]
  · rw [if_neg h]
    by_cases h2 : a = r ∧ j < n
    · rw [if_pos h2, if_pos ⟨h2.1, by omega⟩]
    · rw [if_neg h2, if_neg (by omega)]
theorem fillA_ne {M : mM} {r a j : Nat} {g : Nat → Int32} {n : Nat} (h : a ≠ r) : (fillA M r g n).1 a j = M.1 a j := by
  show (if a = r ∧ j < n then g j else M.1 a j) = _
  rw [if_neg (fun q => h q.1)]
theorem fillA_in {M : mM} {r j : Nat} {g : Nat → Int32} {n : Nat} (h : j < n) : (fillA M r g n).1 r j = g j := by
  show (if r = r ∧ j < n then g j else M.1 r j) = _
  rw [if_pos ⟨rfl, h⟩]
theorem Same.fill {S : Nat → Prop} {M : mM} {r : Nat} {g : Nat → Int32} {n : Nat} (h : S r) : Same S M (fillA M r g n) := ⟨fun a ha j => fillA_ne (fun q => ha (q ▸ h)), Eq.refl _⟩
def inP (b a : Nat) : Prop := b ≤ a ∧ a ≤ b + 5
theorem RelP.same {S : Nat → Prop} {M M' : mM} {b : Nat} {A : Row} (h : RelP M b A) (s : Same S M M') (hd : ∀ a, b ≤ a → a ≤ b + 5 → ¬ S a) : RelP M' b A := by
  obtain ⟨h1, h2, h3, h4, h5, h6, h7, h8⟩ := h
  have e := fun a j h1 h2 => s.1 a (hd a h1 h2) j
  refine ⟨?_, ?_, ?_, ?_, ?_, ?_, ?_, ?_⟩
  · rw [e _ _ (by omega) (by omega)]; exact h1
  · rw [e _ _ (by omega) (by omega)]; exact h2
  · intro i hi; rw [e _ _ (by omega) (by omega)]; exact h3 i hi
  · intro k p a1 a2 a3; rw [e _ _ (by omega) (by omega)]; exact h4 k p a1 a2 a3
  · intro i hi; rw [e _ _ (by omega) (by omega)]; exact h5 i hi
  · intro i hi; rw [e _ _ (by omega) (by omega)]; exact h6 i hi
  · intro i hi; rw [e _ _ (by omega) (by omega)]; exact h7 i hi
  · intro i hi; rw [e _ _ (by omega) (by omega)]; exact h8 i hi
/-- the static arrays -/
def Stat (Z : mZ) (M : mM) : Prop := (Z.2.2.1 1 = 3 ∧ Z.2.2.1 2 = 3 ∧ Z.2.2.1 3 = 3 ∧ Z.2.2.1 4 = 5) ∧ (M.1 1 0 = nI 3 ∧ M.1 1 1 = nI 2 ∧ M.1 1 2 = nI 600) ∧ (M.1 2 0 = nI 1 ∧ M.1 2 1 = nI 0 ∧ M.1 2 2 = nI 100) ∧ (M.1 3 0 = nI 4 ∧ M.1 3 1 = nI 3 ∧ M.1 3 2 = nI 2000) ∧
  M.1 4 0 = nI 5 ∧ M.1 4 1 = nI 4 ∧ M.1 4 2 = nI 3 ∧ M.1 4 3 = nI 2 ∧ M.1 4 4 = nI 0
theorem Stat.same {S : Nat → Prop} {Z : mZ} {M M' : mM} (h : Stat Z M) (s : Same S M M') (hd : ∀ a, a < 8 → ¬ S a) : Stat Z M' := by
  have e := fun a j h1 => s.1 a (hd a h1) j
  unfold Stat
  rw [e 1 _ (by omega), e 1 _ (by omega), e 1 _ (by omega), e 2 _ (by omega), e 2 _ (by omega), e 2 _ (by omega), e 3 _ (by omega), e 3 _ (by omega), e 3 _ (by omega), e 4 _ (by omega), e 4 _ (by omega), e 4 _ (by omega), e 4 _ (by omega), e 4 _ (by omega)]
  exact h
def begR (n : Nat) : Row := fun i => if i = 0 then n else if i = 1 then 3 else if i = 2 then 2 else if i = 3 then 600 else if 5 ≤ i ∧ i ≤ 10 then 60 else 0
def firR (j : Nat) : Int32 := if j = 0 then nI 3 else if j = 1 then nI 2 else nI 600
section KP3
variable {N : Nat} {Z : mZ} {M : mM} {b b' : Nat} {A : Row} {c : Nat}

theorem k_begin114 (hP : PlanAt Z b) : ∀ (j i fu : Nat), i + j = 6 → j < fu → fX4_begin_114 N Z fu b (nI i) (fillA M (b + 5) (fun _ => 60) i) = some ((), (fillA M (b + 5) (fun _ => 60) 6)) := by
  obtain ⟨o1, -, -, -, -, o2, -, -, -, -, ⟨o4, o5, o6⟩⟩ := hP
  intro j
  induction j with
  | zero =>
    intro i fu h2 h3
    obtain ⟨fu, rfl⟩ : ∃ q, fu = q + 1 := ⟨fu - 1, by omega⟩
    have h4 : i = 6 := by omega
    subst h4
    rw [fX4_begin_114, ck_t o1, o2, bnd1_some, ck_t o5, o6, if_pos (by rw [i_ofNat, i_le (by omega) (by omega)]; omega)]
  | succ j ih =>
    intro i fu h2 h3
    obtain ⟨fu, rfl⟩ : ∃ q, fu = q + 1 := ⟨fu - 1, by omega⟩
    have hi := ih (i + 1) fu (by omega) (by omega)
    rw [fX4_begin_114, ck_t o1, o2, bnd1_some, ck_t o5, o6, if_neg (by rw [i_ofNat, i_le (by omega) (by omega)]; omega), ck_t o4, ck_t (by rw [i_inB (by omega)]; exact decide_eq_true (by omega)), i_cl (by omega), nI_1, fillA_s (g := fun _ => 60) rfl]
    exact hi
theorem k_begin84 (hP : PlanAt Z b) (hs : Stat Z M) (hb : 8 ≤ b) : ∀ (j i fu : Nat), i + j = 3 → j < fu → fX4_begin_84 N Z fu b (nI i) (fillA M (b + 4) (firR) i) = fX4_begin_114 N Z N b 0 (fillA M (b + 4) (firR) 3) := by
  obtain ⟨o1, -, -, -, o2, -, -, -, -, ⟨o4, o5, o6⟩, -⟩ := hP
  intro j
  induction j with
  | zero =>
    intro i fu h2 h3
    obtain ⟨fu, rfl⟩ : ∃ q, fu = q + 1 := ⟨fu - 1, by omega⟩
    have h4 : i = 3 := by omega
    subst h4
    rw [fX4_begin_84, ck_t o1, o2, bnd1_some, ck_t o5, o6, if_pos (by rw [i_ofNat, i_le (by omega) (by omega)]; omega)]
  | succ j ih =>
    intro i fu h2 h3
    obtain ⟨fu, rfl⟩ : ∃ q, fu = q + 1 := ⟨fu - 1, by omega⟩
    have hi := ih (i + 1) fu (by omega) (by omega)
    have hv : (fillA M (b + 4) firR i).1 1 i = firR i := by
      rw [fillA_ne (by omega)]
      obtain ⟨-, ⟨q0, q1, q2⟩, -⟩ := hs
      rcases (show i = 0 ∨ i = 1 ∨ i = 2 by omega) with rfl | rfl | rfl
      · exact q0
      · exact q1
      · exact q2
    rw [fX4_begin_84, ck_t o1, o2, bnd1_some, ck_t o5, o6, if_neg (by rw [i_ofNat, i_le (by omega) (by omega)]; omega), k_at (okI_lo (by omega)) (by rw [hs.1.1]; omega) (by rw [hs.1.1]; omega), bnd2_some, ck_t o4, ck_t (by rw [i_inB (by omega)]; exact decide_eq_true (by omega)), i_cl (by omega), nI_1, fillA_s hv]
    exact hi
theorem k_begin60 (hP : PlanAt Z b) : ∀ (j i fu : Nat), i + j = 70 → j < fu → fX4_begin_60 N Z fu b (nI i) (fillA M (b + 3) (fun _ => 0) i) = fX4_begin_84 N Z N b 0 (fillA M (b + 3) (fun _ => 0) 70) := by
  obtain ⟨o1, -, -, o2, -, -, -, -, ⟨o4, o5, o6⟩, -, -⟩ := hP
  intro j
  induction j with
  | zero =>
    intro i fu h2 h3
    obtain ⟨fu, rfl⟩ : ∃ q, fu = q + 1 := ⟨fu - 1, by omega⟩
    have h4 : i = 70 := by omega
    subst h4
    rw [fX4_begin_60, ck_t o1, o2, bnd1_some, ck_t o5, o6, if_pos (by rw [i_ofNat, i_le (by omega) (by omega)]; omega)]
  | succ j ih =>
    intro i fu h2 h3
    obtain ⟨fu, rfl⟩ : ∃ q, fu = q + 1 := ⟨fu - 1, by omega⟩
    have hi := ih (i + 1) fu (by omega) (by omega)
    rw [fX4_begin_60, ck_t o1, o2, bnd1_some, ck_t o5, o6, if_neg (by rw [i_ofNat, i_le (by omega) (by omega)]; omega), ck_t o4, ck_t (by rw [i_inB (by omega)]; exact decide_eq_true (by omega)), i_cl (by omega), nI_1, fillA_s (g := fun _ => 0) rfl]
    exact hi
theorem k_begin36 (hP : PlanAt Z b) : ∀ (j i fu : Nat), i + j = 60 → j < fu → fX4_begin_36 N Z fu b (nI i) (fillA M (b + 2) (fun _ => 0) i) = fX4_begin_60 N Z N b 0 (fillA M (b + 2) (fun _ => 0) 60) := by
  obtain ⟨o1, -, o2, -, -, -, -, ⟨o4, o5, o6⟩, -, -, -⟩ := hP
  intro j
  induction j with
  | zero =>
    intro i fu h2 h3
    obtain ⟨fu, rfl⟩ : ∃ q, fu = q + 1 := ⟨fu - 1, by omega⟩
    have h4 : i = 60 := by omega
    subst h4
    rw [fX4_begin_36, ck_t o1, o2, bnd1_some, ck_t o5, o6, if_pos (by rw [i_ofNat, i_le (by omega) (by omega)]; omega)]
  | succ j ih =>
    intro i fu h2 h3
    obtain ⟨fu, rfl⟩ : ∃ q, fu = q + 1 := ⟨fu - 1, by omega⟩
    have hi := ih (i + 1) fu (by omega) (by omega)
    rw [fX4_begin_36, ck_t o1, o2, bnd1_some, ck_t o5, o6, if_neg (by rw [i_ofNat, i_le (by omega) (by omega)]; omega), ck_t o4, ck_t (by rw [i_inB (by omega)]; exact decide_eq_true (by omega)), i_cl (by omega), nI_1, fillA_s (g := fun _ => 0) rfl]
    exact hi
theorem k_begin12 (hP : PlanAt Z b) : ∀ (j i fu : Nat), i + j = 10 → j < fu → fX4_begin_12 N Z fu b (nI i) (fillA M (b + 1) (fun _ => 0) i) = fX4_begin_36 N Z N b 0 (fillA M (b + 1) (fun _ => 0) 10) := by
  obtain ⟨o1, o2, -, -, -, -, ⟨o4, o5, o6⟩, -, -, -, -⟩ := hP
  intro j
  induction j with
  | zero =>
    intro i fu h2 h3
    obtain ⟨fu, rfl⟩ : ∃ q, fu = q + 1 := ⟨fu - 1, by omega⟩
    have h4 : i = 10 := by omega
    subst h4
    rw [fX4_begin_12, ck_t o1, o2, bnd1_some, ck_t o5, o6, if_pos (by rw [i_ofNat, i_le (by omega) (by omega)]; omega)]
  | succ j ih =>
    intro i fu h2 h3
    obtain ⟨fu, rfl⟩ : ∃ q, fu = q + 1 := ⟨fu - 1, by omega⟩
    have hi := ih (i + 1) fu (by omega) (by omega)
    rw [fX4_begin_12, ck_t o1, o2, bnd1_some, ck_t o5, o6, if_neg (by rw [i_ofNat, i_le (by omega) (by omega)]; omega), ck_t o4, ck_t (by rw [i_inB (by omega)]; exact decide_eq_true (by omega)), i_cl (by omega), nI_1, fillA_s (g := fun _ => 0) rfl]
    exact hi
def begM (M : mM) (b : Nat) (n : Int32) : mM := fillA (fillA (fillA (fillA (fillA (sI (sI M b 0 n) b 1 0) (b + 1) (fun _ => 0) 10) (b + 2) (fun _ => 0) 60) (b + 3) (fun _ => 0) 70) (b + 4) firR 3) (b + 5) (fun _ => 60) 6
theorem k_begin (hN : 5000 ≤ N) (hP : PlanAt Z b) (hs : Stat Z M) (n : Int32) : fX4_begin N Z b n M = some ((), begM M b n) := by
  have hb := (okO_spec hP.1).1
  unfold fX4_begin begM
  have h1 := k_begin12 (N := N) (M := sI (sI M b 0 n) b 1 0) hP 10 0 N (by omega) (by omega)
  rw [fillA_0] at h1
  have h2 := k_begin36 (N := N) (M := fillA (sI (sI M b 0 n) b 1 0) (b + 1) (fun _ => 0) 10) hP 60 0 N (by omega) (by omega)
  rw [fillA_0] at h2
  have h3 := k_begin60 (N := N) (M := fillA (fillA (sI (sI M b 0 n) b 1 0) (b + 1) (fun _ => 0) 10) (b + 2) (fun _ => 0) 60) hP 70 0 N (by omega) (by omega)
  rw [fillA_0] at h3
  have hs' : Stat Z (fillA (fillA (fillA (sI (sI M b 0 n) b 1 0) (b + 1) (fun _ => 0) 10) (b + 2) (fun _ => 0) 60) (b + 3) (fun _ => 0) 70) := by
    refine hs.same (S := fun a => 8 ≤ a) ?_ (fun a ha q => by omega)
    exact ((((Same.put (S := fun a => 8 ≤ a) hb).trans (Same.put hb)).trans (Same.fill (show 8 ≤ b + 1 by omega))).trans (Same.fill (show 8 ≤ b + 2 by omega))).trans (Same.fill (show 8 ≤ b + 3 by omega))
  have h4 := k_begin84 (N := N) hP hs' hb 3 0 N (by omega) (by omega)
  rw [fillA_0] at h4
  have h5 := k_begin114 (N := N) (M := fillA (fillA (fillA (fillA (sI (sI M b 0 n) b 1 0) (b + 1) (fun _ => 0) 10) (b + 2) (fun _ => 0) 60) (b + 3) (fun _ => 0) 70) (b + 4) firR 3) hP 6 0 N (by omega) (by omega)
  rw [fillA_0] at h5
  rw [ck_t hP.1]
  exact h1.trans (h2.trans (h3.trans (h4.trans h5)))
theorem begM_same {n : Int32} : Same (inP b) M (begM M b n) := by
  have h : ∀ k, k ≤ 5 → inP b (b + k) := fun k hk => ⟨by omega, by omega⟩
  exact ((((((Same.put (h 0 (by omega))).trans (Same.put (h 0 (by omega)))).trans (Same.fill (h 1 (by omega)))).trans (Same.fill (h 2 (by omega)))).trans (Same.fill (h 3 (by omega)))).trans (Same.fill (h 4 (by omega)))).trans (Same.fill (h 5 (by omega)))
theorem begM_rel (n : Nat) : RelP (begM M b (nI n)) b (begR n) := by
  refine ⟨?_, ?_, ?_, ?_, ?_, ?_, ?_, ?_⟩
  · simp [begM, fillA, sI, begR]
  · simp [begM, fillA, sI, begR]; rfl
  · intro i hi
    have e : begR n (11 + i) = 0 := by unfold begR; rw [if_neg (by omega), if_neg (by omega), if_neg (by omega), if_neg (by omega), if_neg (by omega)]
    rw [e]; simp [begM, fillA, sI, hi]; rfl
  · intro k p h1 h2 h3
    have e0 : ∀ i, 11 ≤ i → begR n i = 0 := fun i hi => by unfold begR; rw [if_neg (by omega), if_neg (by omega), if_neg (by omega), if_neg (by omega), if_neg (by omega)]
    have e : mkS (begR n) k p = 0 := by
      unfold mkS rwB dm
      repeat' split
      · rw [e0 _ (by omega), e0 _ (by omega), e0 _ (by omega), e0 _ (by omega), e0 _ (by omega), e0 _ (by omega)]; rfl
      · exact e0 _ (by omega)
      · exact e0 _ (by omega)
      · exact e0 _ (by omega)
    rw [e]; simp [begM, fillA, sI, show 10 * k + p < 60 by omega]; rfl
  · intro i hi; simp [begM, fillA, sI, show i < 60 by omega]; rfl
  · intro i hi
    have e : begR n (21 + i) = 0 := by unfold begR; rw [if_neg (by omega), if_neg (by omega), if_neg (by omega), if_neg (by omega), if_neg (by omega)]
    rw [e]; simp [begM, fillA, sI, hi]; rfl
  · intro i hi
    rcases (show i = 0 ∨ i = 1 ∨ i = 2 by omega) with rfl | rfl | rfl <;> simp [begM, fillA, sI, begR, firR]
  · intro i hi
    have e : begR n (5 + i) = 60 := by unfold begR; rw [if_neg (by omega), if_neg (by omega), if_neg (by omega), if_neg (by omega), if_pos (by omega)]
    rw [e]; simp [begM, fillA, sI, hi]; rfl
theorem begR_wf {n c : Nat} (h1 : 4 ≤ n) (h2 : n ≤ 10) (hc : c ≤ 1000000) : WF (begR n) c := by
  have e0 : ∀ i, 11 ≤ i → begR n i = 0 := fun i hi => by unfold begR; rw [if_neg (by omega), if_neg (by omega), if_neg (by omega), if_neg (by omega), if_neg (by omega)]
  refine ⟨⟨h1, h2⟩, ⟨Nat.le_of_ble_eq_true rfl, Nat.le_of_ble_eq_true rfl⟩, Nat.le_of_ble_eq_true rfl, ⟨Nat.le_of_ble_eq_true rfl, Nat.le_of_ble_eq_true rfl⟩, ?_, ?_, ?_, ?_, ?_, ?_, ?_, ?_, ?_, hc⟩
  · intro i hi; rw [e0 _ (by omega)]; omega
  · intro i _ hi; rw [e0 _ (by omega)]
  · intro i l _ _; rw [e0 _ (by omega)]; omega
  · intro i l _ _ _; rw [e0 _ (by omega)]
  · intro i hi; rw [e0 _ (by omega)]; exact ⟨by omega, fun l h => by simp at h⟩
  · intro i hi; rw [e0 _ (by omega)]; exact ⟨by omega, fun l h => by simp at h⟩
  · intro i hi; rw [e0 _ (by omega)]; exact ⟨by omega, fun l h => by simp at h⟩
  · exact Nat.zero_le _
  · intro k hk
    have e : begR n (5 + k) = 60 := by unfold begR; rw [if_neg (by omega), if_neg (by omega), if_neg (by omega), if_neg (by omega), if_pos (by omega)]
    rw [e]; omega
theorem k_copy142 (hP : PlanAt Z b) (hP' : PlanAt Z b') (hd : b + 6 ≤ b' ∨ b' + 6 ≤ b) : ∀ (j i fu : Nat), i + j = 6 → j < fu → fX4_copyFrom_142 N Z fu b b' (nI i) (fillA M (b + 5) (M.1 (b' + 5)) i) = some ((), (fillA M (b + 5) (M.1 (b' + 5)) 6)) := by
  obtain ⟨o1, -, -, -, -, o2, -, -, -, -, ⟨o4, o5, o6⟩⟩ := hP
  obtain ⟨u1, -, -, -, -, u2, -, -, -, -, ⟨-, u5, u6⟩⟩ := hP'
  intro j
  induction j with
  | zero =>
    intro i fu h2 h3
    obtain ⟨fu, rfl⟩ : ∃ q, fu = q + 1 := ⟨fu - 1, by omega⟩
    have h4 : i = 6 := by omega
    subst h4
    rw [fX4_copyFrom_142, ck_t o1, o2, bnd1_some, ck_t o5, o6, if_pos (by rw [i_ofNat, i_le (by omega) (by omega)]; omega)]
  | succ j ih =>
    intro i fu h2 h3
    obtain ⟨fu, rfl⟩ : ∃ q, fu = q + 1 := ⟨fu - 1, by omega⟩
    have hi := ih (i + 1) fu (by omega) (by omega)
    rw [fX4_copyFrom_142, ck_t o1, o2, bnd1_some, ck_t o5, o6, if_neg (by rw [i_ofNat, i_le (by omega) (by omega)]; omega), ck_t u1, u2, bnd1_some, k_at u5 (by rw [u6]; omega) (by rw [u6]; omega), bnd2_some, ck_t o4, ck_t (by rw [i_inB (by omega)]; exact decide_eq_true (by omega)), i_cl (by omega), nI_1, fillA_s (fillA_ne (by omega))]
    exact hi
theorem k_copy111 (hP : PlanAt Z b) (hP' : PlanAt Z b') (hd : b + 6 ≤ b' ∨ b' + 6 ≤ b) : ∀ (j i fu : Nat), i + j = 3 → j < fu → fX4_copyFrom_111 N Z fu b b' (nI i) (fillA M (b + 4) (M.1 (b' + 4)) i) = fX4_copyFrom_142 N Z N b b' 0 (fillA M (b + 4) (M.1 (b' + 4)) 3) := by
  obtain ⟨o1, -, -, -, o2, -, -, -, -, ⟨o4, o5, o6⟩, -⟩ := hP
  obtain ⟨u1, -, -, -, u2, -, -, -, -, ⟨-, u5, u6⟩, -⟩ := hP'
  intro j
  induction j with
  | zero =>
    intro i fu h2 h3
    obtain ⟨fu, rfl⟩ : ∃ q, fu = q + 1 := ⟨fu - 1, by omega⟩
    have h4 : i = 3 := by omega
    subst h4
    rw [fX4_copyFrom_111, ck_t o1, o2, bnd1_some, ck_t o5, o6, if_pos (by rw [i_ofNat, i_le (by omega) (by omega)]; omega)]
  | succ j ih =>
    intro i fu h2 h3
    obtain ⟨fu, rfl⟩ : ∃ q, fu = q + 1 := ⟨fu - 1, by omega⟩
    have hi := ih (i + 1) fu (by omega) (by omega)
    rw [fX4_copyFrom_111, ck_t o1, o2, bnd1_some, ck_t o5, o6, if_neg (by rw [i_ofNat, i_le (by omega) (by omega)]; omega), ck_t u1, u2, bnd1_some, k_at u5 (by rw [u6]; omega) (by rw [u6]; omega), bnd2_some, ck_t o4, ck_t (by rw [i_inB (by omega)]; exact decide_eq_true (by omega)), i_cl (by omega), nI_1, fillA_s (fillA_ne (by omega))]
    exact hi
theorem k_copy80 (hP : PlanAt Z b) (hP' : PlanAt Z b') (hd : b + 6 ≤ b' ∨ b' + 6 ≤ b) : ∀ (j i fu : Nat), i + j = 70 → j < fu → fX4_copyFrom_80 N Z fu b b' (nI i) (fillA M (b + 3) (M.1 (b' + 3)) i) = fX4_copyFrom_111 N Z N b b' 0 (fillA M (b + 3) (M.1 (b' + 3)) 70) := by
  obtain ⟨o1, -, -, o2, -, -, -, -, ⟨o4, o5, o6⟩, -, -⟩ := hP
  obtain ⟨u1, -, -, u2, -, -, -, -, ⟨-, u5, u6⟩, -, -⟩ := hP'
  intro j
  induction j with
  | zero =>
    intro i fu h2 h3
    obtain ⟨fu, rfl⟩ : ∃ q, fu = q + 1 := ⟨fu - 1, by omega⟩
    have h4 : i = 70 := by omega
    subst h4
    rw [fX4_copyFrom_80, ck_t o1, o2, bnd1_some, ck_t o5, o6, if_pos (by rw [i_ofNat, i_le (by omega) (by omega)]; omega)]
  | succ j ih =>
    intro i fu h2 h3
    obtain ⟨fu, rfl⟩ : ∃ q, fu = q + 1 := ⟨fu - 1, by omega⟩
    have hi := ih (i + 1) fu (by omega) (by omega)
    rw [fX4_copyFrom_80, ck_t o1, o2, bnd1_some, ck_t o5, o6, if_neg (by rw [i_ofNat, i_le (by omega) (by omega)]; omega), ck_t u1, u2, bnd1_some, k_at u5 (by rw [u6]; omega) (by rw [u6]; omega), bnd2_some, ck_t o4, ck_t (by rw [i_inB (by omega)]; exact decide_eq_true (by omega)), i_cl (by omega), nI_1, fillA_s (fillA_ne (by omega))]
    exact hi
theorem k_copy49 (hP : PlanAt Z b) (hP' : PlanAt Z b') (hd : b + 6 ≤ b' ∨ b' + 6 ≤ b) : ∀ (j i fu : Nat), i + j = 60 → j < fu → fX4_copyFrom_49 N Z fu b b' (nI i) (fillA M (b + 2) (M.1 (b' + 2)) i) = fX4_copyFrom_80 N Z N b b' 0 (fillA M (b + 2) (M.1 (b' + 2)) 60) := by
  obtain ⟨o1, -, o2, -, -, -, -, ⟨o4, o5, o6⟩, -, -, -⟩ := hP
  obtain ⟨u1, -, u2, -, -, -, -, ⟨-, u5, u6⟩, -, -, -⟩ := hP'
  intro j
  induction j with
  | zero =>
    intro i fu h2 h3
    obtain ⟨fu, rfl⟩ : ∃ q, fu = q + 1 := ⟨fu - 1, by omega⟩
    have h4 : i = 60 := by omega
    subst h4
    rw [fX4_copyFrom_49, ck_t o1, o2, bnd1_some, ck_t o5, o6, if_pos (by rw [i_ofNat, i_le (by omega) (by omega)]; omega)]
  | succ j ih =>
    intro i fu h2 h3
    obtain ⟨fu, rfl⟩ : ∃ q, fu = q + 1 := ⟨fu - 1, by omega⟩
    have hi := ih (i + 1) fu (by omega) (by omega)
    rw [fX4_copyFrom_49, ck_t o1, o2, bnd1_some, ck_t o5, o6, if_neg (by rw [i_ofNat, i_le (by omega) (by omega)]; omega), ck_t u1, u2, bnd1_some, k_at u5 (by rw [u6]; omega) (by rw [u6]; omega), bnd2_some, ck_t o4, ck_t (by rw [i_inB (by omega)]; exact decide_eq_true (by omega)), i_cl (by omega), nI_1, fillA_s (fillA_ne (by omega))]
    exact hi
theorem k_copy18 (hP : PlanAt Z b) (hP' : PlanAt Z b') (hd : b + 6 ≤ b' ∨ b' + 6 ≤ b) : ∀ (j i fu : Nat), i + j = 10 → j < fu → fX4_copyFrom_18 N Z fu b b' (nI i) (fillA M (b + 1) (M.1 (b' + 1)) i) = fX4_copyFrom_49 N Z N b b' 0 (fillA M (b + 1) (M.1 (b' + 1)) 10) := by
  obtain ⟨o1, o2, -, -, -, -, ⟨o4, o5, o6⟩, -, -, -, -⟩ := hP
  obtain ⟨u1, u2, -, -, -, -, ⟨-, u5, u6⟩, -, -, -, -⟩ := hP'
  intro j
  induction j with
  | zero =>
    intro i fu h2 h3
    obtain ⟨fu, rfl⟩ : ∃ q, fu = q + 1 := ⟨fu - 1, by omega⟩
    have h4 : i = 10 := by omega
    subst h4
    rw [fX4_copyFrom_18, ck_t o1, o2, bnd1_some, ck_t o5, o6, if_pos (by rw [i_ofNat, i_le (by omega) (by omega)]; omega)]
  | succ j ih =>
    intro i fu h2 h3
    obtain ⟨fu, rfl⟩ : ∃ q, fu = q + 1 := ⟨fu - 1, by omega⟩
    have hi := ih (i + 1) fu (by omega) (by omega)
    rw [fX4_copyFrom_18, ck_t o1, o2, bnd1_some, ck_t o5, o6, if_neg (by rw [i_ofNat, i_le (by omega) (by omega)]; omega), ck_t u1, u2, bnd1_some, k_at u5 (by rw [u6]; omega) (by rw [u6]; omega), bnd2_some, ck_t o4, ck_t (by rw [i_inB (by omega)]; exact decide_eq_true (by omega)), i_cl (by omega), nI_1, fillA_s (fillA_ne (by omega))]
    exact hi
def cpM (M : mM) (b b' : Nat) : mM := fillA (fillA (fillA (fillA (fillA (sI (sI M b 0 (M.1 b' 0)) b 1 (M.1 b' 1)) (b + 1) (M.1 (b' + 1)) 10) (b + 2) (M.1 (b' + 2)) 60) (b + 3) (M.1 (b' + 3)) 70) (b + 4) (M.1 (b' + 4)) 3) (b + 5) (M.1 (b' + 5)) 6
theorem k_copy (hN : 5000 ≤ N) (hP : PlanAt Z b) (hP' : PlanAt Z b') (hd : b + 6 ≤ b' ∨ b' + 6 ≤ b) : fX4_copyFrom N Z b b' M = some ((), cpM M b b') := by
  have q : ∀ k k', k ≤ 5 → k' ≤ 5 → b' + k ≠ b + k' := fun k k' h1 h2 => by omega
  unfold fX4_copyFrom cpM
  rw [ck_t hP'.1, ck_t hP.1, sI_ne M _ (show ¬ (b' = b ∧ (1 : Nat) = 0) by omega)]
  let M0 := sI (sI M b 0 (M.1 b' 0)) b 1 (M.1 b' 1)
  have e0 : ∀ k, k ≤ 5 → M0.1 (b' + k) = M.1 (b' + k) := fun k hk => by
    funext j; show (sI (sI M b 0 (M.1 b' 0)) b 1 (M.1 b' 1)).1 (b' + k) j = _
    rw [sI_ne _ _ (by omega), sI_ne _ _ (by omega)]
  have h1 := k_copy18 (N := N) (M := M0) hP hP' hd 10 0 N (by omega) (by omega)
  rw [fillA_0, e0 1 (by omega)] at h1
  let M1 := fillA M0 (b + 1) (M.1 (b' + 1)) 10
  have e1 : ∀ k, k ≤ 5 → M1.1 (b' + k) = M.1 (b' + k) := fun k hk => by
    rw [← e0 k hk]; funext j; exact fillA_ne (by omega)
  have h2 := k_copy49 (N := N) (M := M1) hP hP' hd 60 0 N (by omega) (by omega)
  rw [fillA_0, e1 2 (by omega)] at h2
  let M2 := fillA M1 (b + 2) (M.1 (b' + 2)) 60
  have e2 : ∀ k, k ≤ 5 → M2.1 (b' + k) = M.1 (b' + k) := fun k hk => by
    rw [← e1 k hk]; funext j; exact fillA_ne (by omega)
  have h3 := k_copy80 (N := N) (M := M2) hP hP' hd 70 0 N (by omega) (by omega)
  rw [fillA_0, e2 3 (by omega)] at h3
  let M3 := fillA M2 (b + 3) (M.1 (b' + 3)) 70
  have e3 : ∀ k, k ≤ 5 → M3.1 (b' + k) = M.1 (b' + k) := fun k hk => by
    rw [← e2 k hk]; funext j; exact fillA_ne (by omega)
  have h4 := k_copy111 (N := N) (M := M3) hP hP' hd 3 0 N (by omega) (by omega)
  rw [fillA_0, e3 4 (by omega)] at h4
  let M4 := fillA M3 (b + 4) (M.1 (b' + 4)) 3
  have e4 : ∀ k, k ≤ 5 → M4.1 (b' + k) = M.1 (b' + k) := fun k hk => by
    rw [← e3 k hk]; funext j; exact fillA_ne (by omega)
  have h5 := k_copy142 (N := N) (M := M4) hP hP' hd 6 0 N (by omega) (by omega)
  rw [fillA_0, e4 5 (by omega)] at h5
  exact h1.trans (h2.trans (h3.trans (h4.trans h5)))
theorem cpM_same : Same (inP b) M (cpM M b b') := by
  have h : ∀ k, k ≤ 5 → inP b (b + k) := fun k hk => ⟨by omega, by omega⟩
  exact ((((((Same.put (h 0 (by omega))).trans (Same.put (h 0 (by omega)))).trans (Same.fill (h 1 (by omega)))).trans (Same.fill (h 2 (by omega)))).trans (Same.fill (h 3 (by omega)))).trans (Same.fill (h 4 (by omega)))).trans (Same.fill (h 5 (by omega)))
theorem cpM_rel (hR : RelP M b' A) : RelP (cpM M b b') b A := by
  obtain ⟨h1, h2, h3, h4, h5, h6, h7, h8⟩ := hR
  refine ⟨?_, ?_, ?_, ?_, ?_, ?_, ?_, ?_⟩
  · simp [cpM, fillA, sI, h1]
  · simp [cpM, fillA, sI, h2]
  · intro i hi; rw [← h3 i hi]; simp [cpM, fillA, sI, hi]
  · intro k p a1 a2 a3; rw [← h4 k p a1 a2 a3]; simp [cpM, fillA, sI, show 10 * k + p < 60 by omega]
  · intro i hi; rw [← h5 i hi]; simp [cpM, fillA, sI, show i < 60 by omega]
  · intro i hi; rw [← h6 i hi]; simp [cpM, fillA, sI, hi]
  · intro i hi; rw [← h7 i hi]; simp [cpM, fillA, sI, hi]
  · intro i hi; rw [← h8 i hi]; simp [cpM, fillA, sI, hi]
end KP3
