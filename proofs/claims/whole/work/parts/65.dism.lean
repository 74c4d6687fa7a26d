/-! ===== LAYER 3: dismantling, what both do ===== -/
def oKd (s : Nat) : Nat := if s < 4 then 5 - s else 0
def cPl (A : Row) (k : Nat) : Nat := k % A 0
def cKd (A : Row) (k : Nat) : Nat := oKd (k / A 0 % 5)
def cLv (A : Row) (k : Nat) : Nat := 6 - k / A 0 / 5
noncomputable def sucA (A : Row) (k : Nat) : Bool := decide ((cKd A k ≠ 0 ∨ A (11 + cPl A k) = cLv A k) ∧ jst A (cKd A k) (cPl A k) (cLv A k) 1 true = none)
noncomputable def pick (A : Row) : Option Nat := ffr (sucA A) (30 * A 0) 0
def takeA (A : Row) (k : Nat) : Row := doA A (cKd A k) (cPl A k) (cLv A k) 1 true
noncomputable def dsL : Nat → Row → List (Nat × Nat × Nat)
  | 0, _ => []
  | n + 1, A => match pick A with
    | none => []
    | some k => (cKd A k, cPl A k, cLv A k) :: dsL n (takeA A k)
noncomputable def dsR : Nat → Row → Row
  | 0, A => A
  | n + 1, A => match pick A with
    | none => A
    | some k => dsR n (takeA A k)
theorem dsL_n {n : Nat} {A : Row} (h : pick A = none) : dsL n A = [] := by
  cases n with
  | zero => rfl
  | succ n => unfold dsL; rw [h]
theorem dsR_n {n : Nat} {A : Row} (h : pick A = none) : dsR n A = A := by
  cases n with
  | zero => rfl
  | succ n => unfold dsR; rw [h]
theorem dsL_s {n k : Nat} {A : Row} (h : pick A = some k) : dsL (n + 1) A = (cKd A k, cPl A k, cLv A k) :: dsL n (takeA A k) := by
  rw [dsL, h]
theorem dsR_s {n k : Nat} {A : Row} (h : pick A = some k) : dsR (n + 1) A = dsR n (takeA A k) := by
  rw [dsR, h]
theorem dsL_len : ∀ (n : Nat) (A : Row), (dsL n A).length ≤ n
  | 0, _ => Nat.le_refl _
  | n + 1, A => by
    cases h : pick A with
    | none => rw [dsL_n h]; exact Nat.zero_le _
    | some k => rw [dsL_s h, List.length_cons]; have := dsL_len n (takeA A k); omega
theorem ffr_some {p : Nat → Bool} : ∀ (j i r : Nat), ffr p j i = some r → p r = true
  | 0, _, _, h => by cases h
  | j + 1, i, r, h => by
    unfold ffr at h
    cases q : p i with
    | true => rw [q, if_pos rfl] at h; cases h; exact q
    | false => rw [q, if_neg (by decide)] at h; exact ffr_some j (i + 1) r h
theorem ffr_none {p : Nat → Bool} : ∀ (j i : Nat), (∀ a, i ≤ a → a < i + j → p a = false) → ffr p j i = none
  | 0, _, _ => rfl
  | j + 1, i, h => by
    unfold ffr
    rw [h i (by omega) (by omega), if_neg (by decide)]
    exact ffr_none j (i + 1) (fun a h1 h2 => h a (by omega) (by omega))
theorem jst_none_ok {A : Row} {c what p l cls told : Nat} {tk : Bool} (w : WF A c) (hp : p < A 0) (hw : what = 0 ∨ (2 ≤ what ∧ what ≤ 5)) (hl : l = lvA A what p told tk) (hc : what = 2 → tk = false → 1 ≤ cls ∧ cls ≤ 4) (h : jst A what p l cls tk = none) : OkA A what p l cls tk := by
  unfold jst at h
  obtain ⟨h1, h⟩ := orJ_none h
  obtain ⟨h2, h⟩ := orJ_none h
  obtain ⟨h3, h⟩ := orJ_none h
  obtain ⟨h4, h⟩ := orJ_none h
  obtain ⟨h5, h⟩ := orJ_none h
  exact jst_ok w hp hw hl hc h1 h2 h3 h5
theorem orJ_some {x y : Option (Nat × Nat)} {q : Nat × Nat} (h : orJ x y = some q) : x = some q ∨ y = some q := by
  cases x with
  | none => exact Or.inr h
  | some r => exact Or.inl h
theorem jst_rn {A : Row} {what p l cls : Nat} {tk : Bool} {q : Nat × Nat} (h : jst A what p l cls tk = some q) : 1 ≤ q.1 ∧ q.1 ≤ 8 := by
  unfold jst at h
  obtain ⟨r, d⟩ := q
  rcases orJ_some h with h | h
  · unfold js1 at h
    by_cases c : l < 1 ∨ (if what = 0 ∧ tk = false then 6 else hFor A what p) < l
    · rw [if_pos c] at h; cases h; exact ⟨by omega, by omega⟩
    · rw [if_neg c] at h; cases h
  rcases orJ_some h with h | h
  · unfold js2 at h; split at h
    · cases h; exact ⟨by omega, by omega⟩
    · cases h
  rcases orJ_some h with h | h
  · have := js3_lt h; exact ⟨by omega, by omega⟩
  rcases orJ_some h with h | h
  · have := js4_lt h; exact ⟨by omega, by omega⟩
  rcases orJ_some h with h | h
  · have := js5_lt h; exact ⟨by omega, by omega⟩
  unfold js6 at h
  split at h <;> cases h <;> exact ⟨by omega, by omega⟩
theorem rN_zero {A : Row} {what p l cls : Nat} {tk : Bool} : (nI (rN (jst A what p l cls tk)) = 0) ↔ jst A what p l cls tk = none := by
  cases h : jst A what p l cls tk with
  | none => exact ⟨fun _ => rfl, fun _ => rfl⟩
  | some q =>
    have := jst_rn h
    constructor
    · intro h2
      rw [i_0, i_eq (by show q.1 < 2147483648; omega) (by omega)] at h2
      have h3 : q.1 = 0 := h2
      omega
    · intro h2; cases h2
theorem oKd_k (s : Nat) : oKd s = 0 ∨ (2 ≤ oKd s ∧ oKd s ≤ 5) := by unfold oKd; split <;> omega
theorem cKd_k (A : Row) (k : Nat) : cKd A k = 0 ∨ (2 ≤ cKd A k ∧ cKd A k ≤ 5) := oKd_k _
theorem cPl_lt {A : Row} {c k : Nat} (w : WF A c) : cPl A k < A 0 := Nat.mod_lt _ (by have := w.1; omega)
theorem cLv_le {A : Row} {c k : Nat} (w : WF A c) (hk : k < 30 * A 0) : 1 ≤ cLv A k ∧ cLv A k ≤ 6 := by
  have h1 := w.1
  have h2 : k / A 0 < 30 := Nat.div_lt_of_lt_mul (by rw [Nat.mul_comm]; exact hk)
  unfold cLv
  revert h2
  generalize k / A 0 = d
  intro h2
  omega
theorem sucA_ok {A : Row} {c k : Nat} (w : WF A c) (h : sucA A k = true) : OkA A (cKd A k) (cPl A k) (cLv A k) 1 true := by
  have h1 := of_decide_eq_true h
  refine jst_none_ok (told := cLv A k) w (cPl_lt w) (cKd_k A k) ?_ (fun _ h => Bool.noConfusion h) h1.2
  unfold lvA
  by_cases q : cKd A k = 0
  · rw [if_pos q, if_pos rfl]
    rcases h1.1 with h2 | h2
    · exact absurd q h2
    · exact h2.symm
  · rw [if_neg q]
theorem takeA_wf {A : Row} {c k : Nat} (w : WF A c) (hc : c + 1 ≤ 1000000) (h : sucA A k = true) : WF (takeA A k) (c + 1) := doA_wf w hc (sucA_ok w h)
theorem doA_0 {A : Row} {what p l cls : Nat} {tk : Bool} (h3 : what = 0 ∨ (2 ≤ what ∧ what ≤ 5)) : doA A what p l cls tk 0 = A 0 := by
  unfold doA
  by_cases q0 : what = 0
  · rw [if_pos q0]; exact doH_e (by omega) (by omega) (by omega) (by omega)
  · rw [if_neg q0]
    by_cases q2 : what = 2
    · rw [if_pos q2]; exact doD_e (by omega) (by omega) (by omega)
    · rw [if_neg q2]
      have := rwB_cases (k := what) (by omega) (by omega)
      exact doS_e (by omega) (by omega) (by omega)
theorem takeA_0 {A : Row} {k : Nat} : takeA A k 0 = A 0 := doA_0 (cKd_k A k)
theorem pc_x : ∀ m, m < 128 → ∀ l, l < 7 → m.testBit l = true → pc (m ^^^ 2 ^ l) + 1 = pc m := by decide +kernel
/-- how many pieces and levels there are -/
def tmA (A : Row) (i : Nat) : Nat := A (11 + i) + pc (dm A i) + pc (A (91 + i)) + pc (A (101 + i)) + pc (A (111 + i))
def muA (A : Row) : Nat := sm (tmA A) 10
theorem bit0_of {A : Row} {m : Nat} (h : ∀ l, m.testBit l = true → 1 ≤ l) : m.testBit 0 = false := by
  cases q : m.testBit 0 with
  | false => rfl
  | true => have := h 0 q; omega
theorem muA_le {A : Row} {c : Nat} (w : WF A c) : muA A ≤ 300 := by
  have h := sm_le (f := tmA A) (k := 30) (n := 10) (fun i hi => by
    have h1 := w.2.2.2.2.1 i hi
    have h2 := (pc_six _ (dm_lt A i) (dm_bit0 A i)).1
    have h3 := w.2.2.2.2.2.2.2.2.1 i hi
    have h5 := w.2.2.2.2.2.2.2.2.2.1 i hi
    have h4 := w.2.2.2.2.2.2.2.2.2.2.1 i hi
    have g3 := (pc_six _ h3.1 (bit0_of (A := A) (fun l hl => (h3.2 l hl).1))).1
    have g5 := (pc_six _ h5.1 (bit0_of (A := A) (fun l hl => (h5.2 l hl).1))).1
    have g4 := (pc_six _ h4.1 (bit0_of (A := A) (fun l hl => (h4.2 l hl).1))).1
    unfold tmA; omega)
  unfold muA; omega
theorem dm_congr {A B : Row} {p : Nat} (h : ∀ l, 1 ≤ l → l ≤ 6 → B (21 + 7 * p + l) = A (21 + 7 * p + l)) : dm B p = dm A p := by
  unfold dm
  rw [h 1 (by omega) (by omega), h 2 (by omega) (by omega), h 3 (by omega) (by omega), h 4 (by omega) (by omega), h 5 (by omega) (by omega), h 6 (by omega) (by omega)]
theorem mu_of {A B : Row} {p : Nat} (hp : p < 10) (hne : ∀ i, i < 10 → i ≠ p → tmA A i = tmA B i) (h : tmA B p + 1 = tmA A p) : muA B + 1 = muA A := by
  have := sm_one (f := tmA A) (g := tmA B) hp hne
  unfold muA; omega
theorem mu_step {A : Row} {c k : Nat} (w : WF A c) (h : sucA A k = true) : muA (takeA A k) + 1 = muA A := by
  have ho := sucA_ok w h
  have hk := cKd_k A k
  have h1 := w.1
  unfold takeA
  obtain ⟨kd, hkd⟩ : ∃ kd, kd = cKd A k := ⟨_, rfl⟩
  obtain ⟨p, hpd⟩ : ∃ p, p = cPl A k := ⟨_, rfl⟩
  obtain ⟨l, hld⟩ : ∃ l, l = cLv A k := ⟨_, rfl⟩
  rw [← hkd, ← hpd, ← hld] at ho ⊢
  rw [← hkd] at hk
  obtain ⟨-, hp, hl1, hl6, ht, -, hh, -, -⟩ := ho
  have w3 := w.2.2.2.2.2.2.2.2.1 p (by omega)
  have w5 := w.2.2.2.2.2.2.2.2.2.1 p (by omega)
  have w4 := w.2.2.2.2.2.2.2.2.2.2.1 p (by omega)
  unfold doA
  by_cases q0 : kd = 0
  · have h2 := (ht q0 rfl).1
    rw [if_pos q0, if_pos rfl, if_pos rfl, if_pos rfl]
    have e : ∀ y0 y1 v i, 21 ≤ i → doH A p v y0 y1 i = A i := fun y0 y1 v i hi => doH_e (by omega) (by omega) (by omega) (by omega)
    refine mu_of (p := p) (by omega) (fun i hi hne => ?_) ?_
    · unfold tmA
      rw [dm_congr (fun l _ _ => e _ _ _ _ (by omega)), doH_hh, if_neg hne, e _ _ _ _ (by omega), e _ _ _ _ (by omega), e _ _ _ _ (by omega)]
    · unfold tmA
      rw [dm_congr (fun l _ _ => e _ _ _ _ (by omega)), doH_hh, if_pos rfl, e _ _ _ _ (by omega), e _ _ _ _ (by omega), e _ _ _ _ (by omega)]
      omega
  · rw [if_neg q0]
    have hs := (hh q0).1
    by_cases q2 : kd = 2
    · subst q2
      rw [if_pos rfl, if_pos rfl, if_pos rfl]
      have e : ∀ y v i, i ≠ 4 → i ≠ 7 → i ≠ 21 + 7 * p + l → doD A p l v y i = A i := fun y v i a b d => doD_e a b d
      have hb : (dm A p).testBit l = true := by
        unfold aHas at hs
        simp only [Bool.and_eq_true] at hs
        exact hs.2
      have hd : dm (doD A p l 0 (A 7 + 1)) p = dm A p ^^^ 2 ^ l := by
        rw [← dm_toggle (v := 0) hl1 hl6 (by rw [dm_bit A p hl1 hl6] at hb; rw [hb]; rfl)]
        refine dm_congr (fun l' a b => ?_)
        unfold doD
        rw [setA_ne (by omega), setA_ne (by omega)]
      refine mu_of (p := p) (by omega) (fun i hi hne => ?_) ?_
      · unfold tmA
        rw [dm_congr (fun l _ _ => e _ _ _ (by omega) (by omega) (by omega)), e _ _ _ (by omega) (by omega) (by omega), e _ _ _ (by omega) (by omega) (by omega), e _ _ _ (by omega) (by omega) (by omega), e _ _ _ (by omega) (by omega) (by omega)]
      · unfold tmA
        rw [hd, e _ _ _ (by omega) (by omega) (by omega), e _ _ _ (by omega) (by omega) (by omega), e _ _ _ (by omega) (by omega) (by omega), e _ _ _ (by omega) (by omega) (by omega)]
        have := pc_x _ (dm_lt A p) l (by omega) hb
        omega
    · rw [if_neg q2, if_pos rfl]
      have hr := rwB_cases (k := kd) (by omega) (by omega)
      have e : ∀ y i, i ≠ 4 → i ≠ 5 + kd → i ≠ rwB kd + p → doS A kd p l y i = A i := fun y i a b d => doS_e a b d
      have hb : (A (rwB kd + p)).testBit l = true := by
        unfold aHas at hs
        rw [mkS_row (by omega)] at hs
        simp only [Bool.and_eq_true] at hs
        exact hs.2
      have hx := doS_s (A := A) (p := p) (l := l) (y := A (5 + kd) + 1) (k := kd) (by omega) (by omega)
      have hm : A (rwB kd + p) < 128 := by
        rcases hr with ⟨r, -⟩ | ⟨r, -⟩ | ⟨r, -⟩
        · rw [r]; exact w3.1
        · rw [r]; exact w4.1
        · rw [r]; exact w5.1
      have hpx := pc_x _ hm l (by omega) hb
      refine mu_of (p := p) (by omega) (fun i hi hne => ?_) ?_
      · unfold tmA
        rw [dm_congr (fun l _ _ => e _ _ (by omega) (by omega) (by omega)), e _ _ (by omega) (by omega) (by omega), e _ _ (by omega) (by omega) (by omega), e _ _ (by omega) (by omega) (by omega), e _ _ (by omega) (by omega) (by omega)]
      · unfold tmA
        rw [dm_congr (fun l _ _ => e _ _ (by omega) (by omega) (by omega)), e (A (5 + kd) + 1) (11 + p) (by omega) (by omega) (by omega)]
        rcases hr with ⟨r, -⟩ | ⟨r, -⟩ | ⟨r, -⟩
        · rw [r] at hx hpx
          rw [hx, e _ (101 + p) (by omega) (by omega) (by omega), e _ (111 + p) (by omega) (by omega) (by omega)]
          omega
        · rw [r] at hx hpx
          rw [hx, e _ (101 + p) (by omega) (by omega) (by omega), e _ (91 + p) (by omega) (by omega) (by omega)]
          omega
        · rw [r] at hx hpx
          rw [hx, e _ (91 + p) (by omega) (by omega) (by omega), e _ (111 + p) (by omega) (by omega) (by omega)]
          omega
def lvs (A : Row) : Nat := sm (fun p => A (11 + p)) (A 0)
theorem lvs_zero {A : Row} (h : lvs A = 0) {p : Nat} (hp : p < A 0) : A (11 + p) = 0 := by
  have := sm_ge (f := fun p => A (11 + p)) hp
  unfold lvs at h
  have h2 : A (11 + p) ≤ sm (fun p => A (11 + p)) (A 0) := this
  omega
theorem pick_zero {A : Row} {c : Nat} (w : WF A c) (h : lvs A = 0) : pick A = none := by
  unfold pick
  refine ffr_none _ _ (fun k _ hk => ?_)
  cases q : sucA A k with
  | false => rfl
  | true =>
    exfalso
    obtain ⟨-, hp, hl1, hl6, ht, -, hh, -, -⟩ := sucA_ok w q
    have z1 := lvs_zero h hp
    have z2 := lvs_zero h (aL_lt w hp)
    by_cases q0 : cKd A k = 0
    · have := (ht q0 rfl).1; omega
    · have h3 := (hh q0).2
      unfold hFor aPH at h3
      split at h3 <;> omega
theorem pieces1 (A : Row) : aPieces A 1 = 0 ↔ lvs A = 0 := by
  have h : ∀ n, sm (fun p => if (1 : Nat) = 0 then aPH A p else if (1 : Nat) = 1 then 2 * A (11 + p) else pc (mkS A 1 p)) n = 2 * sm (fun p => A (11 + p)) n := by
    intro n
    induction n with
    | zero => rfl
    | succ n ih => rw [sm_succ, sm_succ, ih, if_neg (by omega), if_pos rfl]; omega
  unfold aPieces lvs
  rw [h]; omega
