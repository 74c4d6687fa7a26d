/-! ===== LAYER 3: distances: what both searches find ===== -/
def lad (A : Row) (b l : Nat) : Bool := (A (101 + b)).testBit l
def dck (A : Row) (b l : Nat) : Prop := b < A 0 ∧ (dm A b).testBit l = true
def adj (A : Row) (b l b' l' : Nat) : Prop := (b' = b ∧ ((l = l' + 1 ∧ lad A b l = true) ∨ (l' = l + 1 ∧ lad A b l' = true))) ∨ (l' = l ∧ (b' = aL A b ∨ b' = aR A b))
def isD (A : Row) (D : Nat → Nat) : Prop := (∀ b l, b < 10 → l < 7 → D (7 * b + l) ≠ 0 → dck A b l) ∧ (∀ b, dck A b 1 → lad A b 1 = true → D (7 * b + 1) = 1) ∧ (∀ b l, b < 10 → l < 7 → D (7 * b + l) = 1 → l = 1 ∧ lad A b 1 = true) ∧
  (∀ b l k, b < 10 → l < 7 → 1 ≤ k → D (7 * b + l) = k + 1 → ∃ b' l', b' < 10 ∧ l' < 7 ∧ D (7 * b' + l') = k ∧ adj A b' l' b l) ∧
  (∀ b l b' l', b < 10 → l < 7 → D (7 * b + l) ≠ 0 → adj A b l b' l' → dck A b' l' → D (7 * b' + l') ≠ 0 ∧ D (7 * b' + l') ≤ D (7 * b + l) + 1)
theorem dm_bit7 (A : Row) (p : Nat) {l : Nat} (h : (dm A p).testBit l = true) : 1 ≤ l ∧ l ≤ 6 := by
  rcases Nat.eq_zero_or_pos l with h0 | h0
  · subst h0; rw [dm_bit0] at h; cases h
  · refine ⟨h0, ?_⟩
    rcases Nat.lt_or_ge l 7 with h1 | h1
    · omega
    · exfalso
      have : dm A p < 2 ^ l := Nat.lt_of_lt_of_le (dm_lt A p) (Nat.pow_le_pow_right (show 0 < 2 by decide) h1)
      rw [Nat.testBit_lt_two_pow this] at h; cases h
theorem isD_le {A : Row} {c : Nat} (w : WF A c) {D D' : Nat → Nat} (h : isD A D) (h' : isD A D') : ∀ k b l, b < 10 → l < 7 → D (7 * b + l) = k + 1 → D' (7 * b + l) ≠ 0 ∧ D' (7 * b + l) ≤ k + 1 := by
  intro k
  induction k with
  | zero =>
    intro b l hb hl hk
    have h1 := h.1 b l hb hl (by omega)
    have h2 := h.2.2.1 b l hb hl hk
    obtain ⟨rfl, h3⟩ := h2
    have := h'.2.1 b h1 h3
    omega
  | succ k ih =>
    intro b l hb hl hk
    have h1 := h.1 b l hb hl (by omega)
    obtain ⟨b', l', hb', hl', e1, e2⟩ := h.2.2.2.1 b l (k + 1) hb hl (by omega) hk
    have h2 := ih b' l' hb' hl' e1
    have h3 := h'.2.2.2.2 b' l' b l hb' hl' h2.1 e2 h1
    omega
theorem isD_eq {A : Row} {c : Nat} (w : WF A c) {D D' : Nat → Nat} (h : isD A D) (h' : isD A D') (b l : Nat) (hb : b < 10) (hl : l < 7) : D (7 * b + l) = D' (7 * b + l) := by
  rcases Nat.eq_zero_or_pos (D (7 * b + l)) with h0 | h0
  · rcases Nat.eq_zero_or_pos (D' (7 * b + l)) with h1 | h1
    · omega
    · have := isD_le w h' h (D' (7 * b + l) - 1) b l hb hl (by omega); omega
  · have h1 := isD_le w h h' (D (7 * b + l) - 1) b l hb hl (by omega)
    have h2 := isD_le w h' h (D' (7 * b + l) - 1) b l hb hl (by omega)
    omega
/-- the distances of a row -/
noncomputable def aD (A : Row) : Nat → Nat := Classical.epsilon (isD A)
theorem aD_is {A : Row} {D : Nat → Nat} (h : isD A D) : isD A (aD A) := Classical.epsilon_spec_aux ⟨D⟩ (isD A) ⟨D, h⟩
theorem aD_eq {A : Row} {c : Nat} (w : WF A c) {D : Nat → Nat} (h : isD A D) (b l : Nat) (hb : b < 10) (hl : l < 7) : D (7 * b + l) = aD A (7 * b + l) := isD_eq w h (aD_is h) b l hb hl
/-! the search by levels -/
def nxtB (h lad bes dec rea : Nat) : Nat := ((((2 * h) &&& lad) ||| ((h &&& lad) / 2)) ||| bes) &&& dec &&& (127 ^^^ rea)
theorem nxtB_bit {h ld bes dec rea l : Nat} (hl : l < 7) : (nxtB h ld bes dec rea).testBit l = (((decide (1 ≤ l) && h.testBit (l - 1) && ld.testBit l) || (h.testBit (l + 1) && ld.testBit (l + 1)) || bes.testBit l) && dec.testBit l && !rea.testBit l) := by
  have h1 : (127 ^^^ rea).testBit l = !rea.testBit l := by
    rw [Nat.testBit_xor, show (127 : Nat) = 2 ^ 7 - 1 from rfl, Nat.testBit_two_pow_sub_one]
    simp [hl]
  have h2 : (2 * h).testBit l = (decide (1 ≤ l) && h.testBit (l - 1)) := by
    cases l with
    | zero => simp [Nat.testBit_zero]
    | succ l => rw [Nat.testBit_succ, Nat.mul_div_cancel_left h (by decide)]; simp
  have h3 : ((h &&& ld) / 2).testBit l = (h.testBit (l + 1) && ld.testBit (l + 1)) := by
    rw [← Nat.testBit_succ, Nat.testBit_and]
  unfold nxtB
  rw [Nat.testBit_and, Nat.testBit_and, Nat.testBit_or, Nat.testBit_or, Nat.testBit_and, h1, h2, h3]
def fF0 (A : Row) (b : Nat) : Nat := A (101 + b) &&& dm A b &&& 2
def nxF (A : Row) (F R : Nat → Nat) (b : Nat) : Nat := if b < A 0 then nxtB (F b) (A (101 + b)) (F (aL A b) ||| F (aR A b)) (dm A b) (R b) else fF0 A b
def cntR (R : Nat → Nat) : Nat := sm (fun b => pc (R b)) 10
def InvE (A : Row) (s : Nat) (R F S : Nat → Nat) : Prop := (∀ b l, b < 10 → (R b).testBit l = true → dck A b l ∧ 1 ≤ S (7 * b + l) ∧ S (7 * b + l) ≤ s) ∧ (∀ b l, b < 10 → ((F b).testBit l = true ↔ ((R b).testBit l = true ∧ S (7 * b + l) = s))) ∧
  (∀ b l, b < 10 → (R b).testBit l = true → S (7 * b + l) = 1 → l = 1 ∧ lad A b 1 = true) ∧ (∀ b, dck A b 1 → lad A b 1 = true → (R b).testBit 1 = true ∧ S (7 * b + 1) = 1) ∧
  (∀ b l k, b < 10 → (R b).testBit l = true → 1 ≤ k → S (7 * b + l) = k + 1 → ∃ b' l', b' < 10 ∧ (R b').testBit l' = true ∧ S (7 * b' + l') = k ∧ adj A b' l' b l) ∧
  (∀ b l b' l', b < 10 → (R b).testBit l = true → S (7 * b + l) < s → adj A b l b' l' → dck A b' l' → (R b').testBit l' = true ∧ S (7 * b' + l') ≤ S (7 * b + l) + 1) ∧ s ≤ cntR R
def dOf (R S : Nat → Nat) (v : Nat) : Nat := if (R (v / 7)).testBit (v % 7) = true then S v else 0
theorem dOf_at {R S : Nat → Nat} {b l : Nat} (hl : l < 7) : dOf R S (7 * b + l) = if (R b).testBit l = true then S (7 * b + l) else 0 := by
  unfold dOf
  rw [show (7 * b + l) / 7 = b by omega, show (7 * b + l) % 7 = l by omega]
theorem dck_lt {A : Row} {c b l : Nat} (w : WF A c) (h : dck A b l) : b < 10 ∧ 1 ≤ l ∧ l ≤ 6 := ⟨by have := w.1; have := h.1; omega, dm_bit7 A b h.2⟩
/-- closed: nothing more comes -/
theorem isD_of {A : Row} {c s : Nat} {R F S : Nat → Nat} (w : WF A c) (h : InvE A s R F S) (hf : ∀ b l b' l', b < 10 → (R b).testBit l = true → adj A b l b' l' → dck A b' l' → (R b').testBit l' = true ∧ S (7 * b' + l') ≤ S (7 * b + l) + 1) : isD A (dOf R S) := by
  obtain ⟨h1, -, h3, h4, h5, -, -⟩ := h
  have key : ∀ b l, l < 7 → dOf R S (7 * b + l) ≠ 0 → (R b).testBit l = true ∧ dOf R S (7 * b + l) = S (7 * b + l) := fun b l hl hq => by
    rw [dOf_at hl] at hq ⊢
    by_cases q : (R b).testBit l = true
    · exact ⟨q, by rw [if_pos q]⟩
    · rw [if_neg q] at hq; exact absurd rfl hq
  have back : ∀ b l, l < 7 → (R b).testBit l = true → dOf R S (7 * b + l) = S (7 * b + l) := fun b l hl q => by rw [dOf_at hl, if_pos q]
  refine ⟨?_, ?_, ?_, ?_, ?_⟩
  · intro b l hb hl hq; exact (h1 b l hb (key b l hl hq).1).1
  · intro b hd hl; have := h4 b hd hl; rw [back b 1 (by omega) this.1]; exact this.2
  · intro b l hb hl hq
    have := key b l hl (by omega)
    exact h3 b l hb this.1 (by omega)
  · intro b l k hb hl hk hq
    have := key b l hl (by omega)
    obtain ⟨b', l', q1, q2, q3, q4⟩ := h5 b l k hb this.1 hk (by omega)
    have hd := (dck_lt w (h1 b' l' q1 q2).1)
    exact ⟨b', l', q1, by omega, by rw [back b' l' (by omega) q2]; exact q3, q4⟩
  · intro b l b' l' hb hl hq ha hd
    have := key b l hl hq
    have hd' := dck_lt w hd
    have h6 := hf b l b' l' hb this.1 ha hd
    have h7 := (h1 b' l' hd'.1 h6.1).2.1
    rw [back b' l' (by omega) h6.1, this.2]
    omega
theorem aLR {A : Row} {b : Nat} (h4 : 4 ≤ A 0) (hb : b < A 0) : aL A (aR A b) = b ∧ aR A (aL A b) = b := by
  unfold aL aR
  constructor <;> (split <;> split <;> omega)
theorem nxF_bit {A : Row} {c : Nat} (w : WF A c) {F R : Nat → Nat} {b l : Nat} (hb : b < A 0) (hF : ∀ b l, b < 10 → (F b).testBit l = true → dck A b l) : (nxF A F R b).testBit l = true ↔ dck A b l ∧ (R b).testBit l = false ∧ ∃ b' l', b' < 10 ∧ (F b').testBit l' = true ∧ adj A b' l' b l := by
  have h4 := w.1
  have hLR := aLR h4.1 hb
  have hL := aL_lt w hb
  have hR := aR_lt w hb
  unfold nxF
  rw [if_pos hb]
  by_cases hl : l < 7
  · rw [nxtB_bit hl, Nat.testBit_or]
    constructor
    · intro h
      simp only [Bool.and_eq_true, Bool.or_eq_true, decide_eq_true_eq, Bool.not_eq_true'] at h
      obtain ⟨⟨h1, h2⟩, h3⟩ := h
      refine ⟨⟨hb, h2⟩, h3, ?_⟩
      rcases h1 with (⟨⟨q1, q2⟩, q3⟩ | ⟨q1, q2⟩) | q1 | q1
      · exact ⟨b, l - 1, by omega, q2, Or.inl ⟨rfl, Or.inr ⟨by omega, q3⟩⟩⟩
      · exact ⟨b, l + 1, by omega, q1, Or.inl ⟨rfl, Or.inl ⟨rfl, q2⟩⟩⟩
      · exact ⟨aL A b, l, by omega, q1, Or.inr ⟨rfl, Or.inr hLR.2.symm⟩⟩
      · exact ⟨aR A b, l, by omega, q1, Or.inr ⟨rfl, Or.inl hLR.1.symm⟩⟩
    · rintro ⟨h1, h2, b', l', hb', hf, ha⟩
      have hd := hF b' l' hb' hf
      simp only [Bool.and_eq_true, Bool.or_eq_true, decide_eq_true_eq, Bool.not_eq_true']
      refine ⟨⟨?_, h1.2⟩, h2⟩
      rcases ha with ⟨rfl, ⟨q1, q2⟩ | ⟨q1, q2⟩⟩ | ⟨rfl, q | q⟩
      · subst q1; exact Or.inl (Or.inr ⟨hf, q2⟩)
      · subst q1; exact Or.inl (Or.inl ⟨⟨by omega, hf⟩, q2⟩)
      · have : b' = aR A b := by rw [q]; exact (aLR h4.1 hd.1).2.symm
        rw [this] at hf; exact Or.inr (Or.inr hf)
      · have : b' = aL A b := by rw [q]; exact (aLR h4.1 hd.1).1.symm
        rw [this] at hf; exact Or.inr (Or.inl hf)
  · constructor
    · intro h
      unfold nxtB at h
      rw [Nat.testBit_and, Nat.testBit_and] at h
      simp only [Bool.and_eq_true] at h
      have := dm_bit7 A b h.1.2
      omega
    · intro h
      have := dm_bit7 A b h.1.2
      omega
theorem pc_or : ∀ a, a < 128 → ∀ f, f < 128 → a &&& f = 0 → pc (a ||| f) = pc a + pc f := by decide +kernel
theorem pc_pos : ∀ f, f < 128 → f ≠ 0 → 1 ≤ pc f := by decide +kernel
theorem pc_six : ∀ a, a < 128 → a.testBit 0 = false → pc a ≤ 6 ∧ (pc a = 6 → a = 126) := by decide +kernel
theorem sm_lt {f : Nat → Nat} {k p : Nat} : ∀ {n : Nat}, p < n → (∀ i, i < n → f i ≤ k) → f p < k → sm f n < n * k
  | 0, h, _, _ => absurd h (by omega)
  | n + 1, h, hi, hp => by
    rw [sm_succ, Nat.succ_mul]
    by_cases e : p = n
    · subst e
      have := sm_le (n := p) (k := k) (fun i hj => hi i (by omega))
      omega
    · have := sm_lt (n := n) (by omega) (fun i hj => hi i (by omega)) hp
      have := hi n (by omega)
      omega
theorem sm_add_le {f g d : Nat → Nat} : ∀ {n : Nat}, (∀ i, i < n → g i = f i + d i) → sm g n = sm f n + sm d n
  | 0, _ => rfl
  | n + 1, h => by
    rw [sm_succ, sm_succ, sm_succ, sm_add_le (n := n) (fun i hi => h i (by omega)), h n (by omega)]; omega
theorem sm_ge {f : Nat → Nat} {p : Nat} : ∀ {n : Nat}, p < n → f p ≤ sm f n
  | 0, h => absurd h (by omega)
  | n + 1, h => by
    rw [sm_succ]
    by_cases e : p = n
    · subst e; omega
    · have := sm_ge (f := f) (p := p) (n := n) (by omega); omega
/-- the bits of such a set are decks -/
theorem lt128_of {A : Row} {c b : Nat} {x : Nat} (w : WF A c) (h : ∀ l, x.testBit l = true → dck A b l) : x < 128 ∧ x.testBit 0 = false := by
  constructor
  · apply Nat.lt_of_not_le
    intro hx
    obtain ⟨i, hi, hb⟩ := Nat.exists_ge_and_testBit_of_ge_two_pow (n := 7) hx
    have := dck_lt w (h i hb)
    omega
  · cases q : x.testBit 0 with
    | false => rfl
    | true => have := dck_lt w (h 0 q); omega
def sUp (G S : Nat → Nat) (s v : Nat) : Nat := if (G (v / 7)).testBit (v % 7) = true then s else S v
theorem sUp_at {G S : Nat → Nat} {s b l : Nat} (hl : l < 7) : sUp G S s (7 * b + l) = if (G b).testBit l = true then s else S (7 * b + l) := by
  unfold sUp
  rw [show (7 * b + l) / 7 = b by omega, show (7 * b + l) % 7 = l by omega]
/-- one level more -/
theorem invE_step {A : Row} {c s : Nat} {R F S : Nat → Nat} (w : WF A c) (h : InvE A s R F S) (h1s : 1 ≤ s) (hn : ∃ b, b < 10 ∧ nxF A F R b ≠ 0) : InvE A (s + 1) (fun b => R b ||| nxF A F R b) (nxF A F R) (sUp (nxF A F R) S (s + 1)) := by
  have hw4 := w.1
  obtain ⟨h1, h2, h3, h4, h5, h6, h7⟩ := h
  have hFd : ∀ b l, b < 10 → (F b).testBit l = true → dck A b l := fun b l hb hl => (h1 b l hb ((h2 b l hb).1 hl).1).1
  have hout : ∀ b, b < 10 → ¬ b < A 0 → nxF A F R b = 0 := fun b hb hq => by
    unfold nxF fF0
    rw [if_neg hq]
    have : dm A b = 0 := by
      apply Nat.eq_of_testBit_eq
      intro i
      rw [Nat.zero_testBit]
      cases q : (dm A b).testBit i with
      | false => rfl
      | true =>
        have h8 := dm_bit7 A b q
        rw [dm_bit A b h8.1 h8.2, w.2.2.2.2.2.2.2.1 b i hb (by omega) (Or.inr (by have := w.2.2.2.2.2.1 b (by omega) hb; omega))] at q
        simp at q
    rw [this]; simp
  have hG : ∀ b l, b < 10 → ((nxF A F R b).testBit l = true ↔ dck A b l ∧ (R b).testBit l = false ∧ ∃ b' l', b' < 10 ∧ (F b').testBit l' = true ∧ adj A b' l' b l) := fun b l hb => by
    by_cases q : b < A 0
    · exact nxF_bit w q hFd
    · rw [hout b hb q]; constructor
      · intro x; simp at x
      · intro x; exact absurd x.1.1 q
  have hGl : ∀ b l, b < 10 → (nxF A F R b).testBit l = true → l < 7 := fun b l hb hl => by have := dck_lt w ((hG b l hb).1 hl).1; omega
  have hRl : ∀ b l, b < 10 → (R b).testBit l = true → l < 7 := fun b l hb hl => by have := dck_lt w (h1 b l hb hl).1; omega
  have hdis : ∀ b l, b < 10 → (R b).testBit l = true → (nxF A F R b).testBit l = false := fun b l hb hl => by
    cases q : (nxF A F R b).testBit l with
    | false => rfl
    | true => have := ((hG b l hb).1 q).2.1; rw [this] at hl; cases hl
  have sR : ∀ b l, b < 10 → (R b).testBit l = true → sUp (nxF A F R) S (s + 1) (7 * b + l) = S (7 * b + l) := fun b l hb hl => by
    rw [sUp_at (hRl b l hb hl), hdis b l hb hl]; rfl
  have sG : ∀ b l, b < 10 → (nxF A F R b).testBit l = true → sUp (nxF A F R) S (s + 1) (7 * b + l) = s + 1 := fun b l hb hl => by
    rw [sUp_at (hGl b l hb hl), hl]; rfl
  have cases' : ∀ b l, (R b ||| nxF A F R b).testBit l = true → (R b).testBit l = true ∨ (nxF A F R b).testBit l = true := fun b l hl => by
    rw [Nat.testBit_or, Bool.or_eq_true] at hl; exact hl
  have inL : ∀ b l, (R b).testBit l = true → (R b ||| nxF A F R b).testBit l = true := fun b l hl => by rw [Nat.testBit_or, hl]; rfl
  have inR : ∀ b l, (nxF A F R b).testBit l = true → (R b ||| nxF A F R b).testBit l = true := fun b l hl => by rw [Nat.testBit_or, hl, Bool.or_true]
  refine ⟨?_, ?_, ?_, ?_, ?_, ?_, ?_⟩
  · intro b l hb hl
    rcases cases' b l hl with q | q
    · have := h1 b l hb q; rw [sR b l hb q]; exact ⟨this.1, by omega, by omega⟩
    · rw [sG b l hb q]; exact ⟨((hG b l hb).1 q).1, by omega, by omega⟩
  · intro b l hb
    constructor
    · intro q; exact ⟨inR b l q, sG b l hb q⟩
    · rintro ⟨q1, q2⟩
      rcases cases' b l q1 with q | q
      · rw [sR b l hb q] at q2; have := (h1 b l hb q).2.2; omega
      · exact q
  · intro b l hb hl hs
    rcases cases' b l hl with q | q
    · rw [sR b l hb q] at hs; exact h3 b l hb q hs
    · rw [sG b l hb q] at hs; omega
  · intro b hd hl
    have := h4 b hd hl
    have hb := (dck_lt w hd).1
    exact ⟨inL b 1 this.1, by rw [sR b 1 hb this.1]; exact this.2⟩
  · intro b l k hb hl hk hs
    rcases cases' b l hl with q | q
    · rw [sR b l hb q] at hs
      obtain ⟨b', l', a1, a2, a3, a4⟩ := h5 b l k hb q hk hs
      exact ⟨b', l', a1, inL b' l' a2, by rw [sR b' l' a1 a2]; exact a3, a4⟩
    · rw [sG b l hb q] at hs
      obtain ⟨-, -, b', l', a1, a2, a3⟩ := (hG b l hb).1 q
      have a4 := (h2 b' l' a1).1 a2
      exact ⟨b', l', a1, inL b' l' a4.1, by rw [sR b' l' a1 a4.1]; omega, a3⟩
  · intro b l b' l' hb hl hs ha hd
    have hb' := (dck_lt w hd).1
    rcases cases' b l hl with q | q
    · rw [sR b l hb q] at hs ⊢
      by_cases e : S (7 * b + l) < s
      · have := h6 b l b' l' hb q e ha hd
        exact ⟨inL b' l' this.1, by rw [sR b' l' hb' this.1]; exact this.2⟩
      · have e2 : S (7 * b + l) = s := by have := (h1 b l hb q).2.2; omega
        cases q2 : (R b').testBit l' with
        | true => exact ⟨inL b' l' q2, by rw [sR b' l' hb' q2]; have := (h1 b' l' hb' q2).2.2; omega⟩
        | false =>
          have q3 := (hG b' l' hb').2 ⟨hd, q2, b, l, hb, (h2 b l hb).2 ⟨q, e2⟩, ha⟩
          exact ⟨inR b' l' q3, by rw [sG b' l' hb' q3]; omega⟩
    · rw [sG b l hb q] at hs; omega
  · have hR128 : ∀ b, b < 10 → R b < 128 := fun b hb => (lt128_of w (fun l hl => (h1 b l hb hl).1)).1
    have hG128 : ∀ b, b < 10 → nxF A F R b < 128 := fun b hb => (lt128_of w (fun l hl => ((hG b l hb).1 hl).1)).1
    have hand : ∀ b, b < 10 → R b &&& nxF A F R b = 0 := fun b hb => by
      apply Nat.eq_of_testBit_eq
      intro i
      rw [Nat.testBit_and, Nat.zero_testBit]
      cases q : (R b).testBit i with
      | false => rfl
      | true => rw [hdis b i hb q]; rfl
    have e := sm_add_le (f := fun b => pc (R b)) (g := fun b => pc (R b ||| nxF A F R b)) (d := fun b => pc (nxF A F R b)) (n := 10) (fun b hb => pc_or _ (hR128 b hb) _ (hG128 b hb) (hand b hb))
    obtain ⟨b, hb, hq⟩ := hn
    have h8 := pc_pos _ (hG128 b hb) hq
    have h9 := sm_ge (f := fun b => pc (nxF A F R b)) hb
    unfold cntR at h7
    show s + 1 ≤ sm (fun b => pc (R b ||| nxF A F R b)) 10
    have h9' : pc (nxF A F R b) ≤ sm (fun b => pc (nxF A F R b)) 10 := h9
    omega
theorem dm_out {A : Row} {c b l : Nat} (w : WF A c) (hb : b < 10) (h : (dm A b).testBit l = true) : dck A b l := by
  refine ⟨?_, h⟩
  apply Nat.lt_of_not_le
  intro q
  have h8 := dm_bit7 A b h
  rw [dm_bit A b h8.1 h8.2, w.2.2.2.2.2.2.2.1 b l hb (by omega) (Or.inr (by have := w.2.2.2.2.2.1 b q hb; omega))] at h
  simp at h
theorem fF0_bit {A : Row} {c b l : Nat} (w : WF A c) (hb : b < 10) : (fF0 A b).testBit l = true ↔ l = 1 ∧ lad A b 1 = true ∧ dck A b 1 := by
  unfold fF0
  rw [Nat.testBit_and, Nat.testBit_and, show (2 : Nat) = 2 ^ 1 from rfl, Nat.testBit_two_pow]
  simp only [Bool.and_eq_true, decide_eq_true_eq]
  constructor
  · rintro ⟨⟨h1, h2⟩, h3⟩
    subst h3; exact ⟨rfl, h1, dm_out w hb h2⟩
  · rintro ⟨rfl, h1, h2⟩
    exact ⟨⟨h1, h2.2⟩, rfl⟩
theorem invE_one {A : Row} {c : Nat} {S : Nat → Nat} (w : WF A c) (hn : ∃ b, b < 10 ∧ fF0 A b ≠ 0) : InvE A 1 (fun b => 0 ||| fF0 A b) (fF0 A) (sUp (fF0 A) S 1) := by
  have h0 : ∀ b, (fun b => 0 ||| fF0 A b) b = fF0 A b := fun b => Nat.zero_or _
  have sG : ∀ b l, b < 10 → (fF0 A b).testBit l = true → sUp (fF0 A) S 1 (7 * b + l) = 1 := fun b l hb hl => by
    have := ((fF0_bit w hb).1 hl).1
    rw [sUp_at (by omega), hl]; rfl
  unfold InvE
  simp only [h0]
  refine ⟨?_, ?_, ?_, ?_, ?_, ?_, ?_⟩
  · intro b l hb hl
    obtain ⟨rfl, -, hd⟩ := (fF0_bit w hb).1 hl
    rw [sG b 1 hb hl]; exact ⟨hd, by omega, by omega⟩
  · intro b l hb; exact ⟨fun q => ⟨q, sG b l hb q⟩, fun q => q.1⟩
  · intro b l hb hl _
    have := (fF0_bit w hb).1 hl; exact ⟨this.1, this.2.1⟩
  · intro b hd hl
    have hb := (dck_lt w hd).1
    have := (fF0_bit (l := 1) w hb).2 ⟨rfl, hl, hd⟩
    exact ⟨this, sG b 1 hb this⟩
  · intro b l k hb hl hk hs; rw [sG b l hb hl] at hs; omega
  · intro b l b' l' hb hl hs; rw [sG b l hb hl] at hs; omega
  · obtain ⟨b, hb, hq⟩ := hn
    have h1 := (lt128_of (b := b) (x := fF0 A b) w (fun l hl => by obtain ⟨rfl, -, hd⟩ := (fF0_bit w hb).1 hl; exact hd)).1
    have h2 := pc_pos _ h1 hq
    have h3 := sm_ge (f := fun b => pc (fF0 A b)) hb
    show 1 ≤ sm (fun b => pc (fF0 A b)) 10
    have h3' : pc (fF0 A b) ≤ sm (fun b => pc (fF0 A b)) 10 := h3
    omega
theorem isD_none {A : Row} {c : Nat} {S : Nat → Nat} (w : WF A c) (hn : ∀ b, b < 10 → fF0 A b = 0) : isD A (dOf (fun _ => 0) S) := by
  have z : ∀ b l, l < 7 → dOf (fun _ => 0) S (7 * b + l) = 0 := fun b l hl => by rw [dOf_at hl]; simp
  refine ⟨?_, ?_, ?_, ?_, ?_⟩
  · intro b l hb hl hq; exact absurd (z b l hl) hq
  · intro b hd hl
    have := (fF0_bit (l := 1) w (dck_lt w hd).1).2 ⟨rfl, hl, hd⟩
    rw [hn b (dck_lt w hd).1] at this; simp at this
  · intro b l hb hl hq; rw [z b l hl] at hq; omega
  · intro b l k hb hl hk hq; rw [z b l hl] at hq; omega
  · intro b l b' l' hb hl hq; exact absurd (z b l hl) hq
theorem isD_stop {A : Row} {c s : Nat} {R F S : Nat → Nat} (w : WF A c) (h : InvE A s R F S) (hn : ∀ b, b < 10 → nxF A F R b = 0) : isD A (dOf R S) := by
  have h' := h
  obtain ⟨h1, h2, -, -, -, h6, -⟩ := h'
  refine isD_of w h (fun b l b' l' hb hl ha hd => ?_)
  have hb' := (dck_lt w hd).1
  by_cases e : S (7 * b + l) < s
  · exact h6 b l b' l' hb hl e ha hd
  · have e2 : S (7 * b + l) = s := by have := (h1 b l hb hl).2.2; omega
    cases q2 : (R b').testBit l' with
    | true => exact ⟨rfl, by have := (h1 b' l' hb' q2).2.2; omega⟩
    | false =>
      have q3 := (nxF_bit (R := R) w hd.1 (fun b l hb hl => (h1 b l hb ((h2 b l hb).1 hl).1).1)).2 ⟨hd, q2, b, l, hb, (h2 b l hb).2 ⟨hl, e2⟩, ha⟩
      rw [hn b' hb'] at q3; simp at q3
theorem isD_full {A : Row} {c : Nat} {R F S : Nat → Nat} (w : WF A c) (h : InvE A 60 R F S) : isD A (dOf R S) := by
  have h' := h
  obtain ⟨h1, h2, -, -, -, h6, h7⟩ := h'
  have hR : ∀ b, b < 10 → R b = 126 := fun b hb => by
    have h8 := fun b hb => lt128_of (x := R b) w (fun l hl => (h1 b l hb hl).1)
    have h9 := fun b hb => pc_six _ (h8 b hb).1 (h8 b hb).2
    apply (h9 b hb).2
    by_cases e : pc (R b) < 6
    · have := sm_lt (f := fun b => pc (R b)) (k := 6) (n := 10) hb (fun i hi => (h9 i hi).1) e
      unfold cntR at h7; omega
    · have := (h9 b hb).1; omega
  refine isD_of w h (fun b l b' l' hb hl ha hd => ?_)
  have hb' := dck_lt w hd
  have q : (R b').testBit l' = true := by
    rw [hR b' hb'.1]
    have : ∀ l, l < 7 → 1 ≤ l → (126 : Nat).testBit l = true := by decide
    exact this l' (by omega) hb'.2.1
  have h8 := (h1 b' l' hb'.1 q).2.2
  by_cases e : S (7 * b + l) < 60
  · exact h6 b l b' l' hb hl e ha hd
  · exact ⟨q, by omega⟩
noncomputable def rch (A : Row) (b l : Nat) : Bool := decide (1 ≤ l) && decide (l ≤ 6) && decide (aD A (7 * b + l) ≠ 0)
noncomputable def rB (A : Row) (b : Nat) : Nat := dmB (rch A b 1) (rch A b 2) (rch A b 3) (rch A b 4) (rch A b 5) (rch A b 6)
theorem rB_lt (A : Row) (b : Nat) : rB A b < 128 := (dmB_bits _ _ _ _ _ _).1
theorem rB_bit (A : Row) (b l : Nat) : (rB A b).testBit l = rch A b l := by
  obtain ⟨q, q0, q1, q2, q3, q4, q5, q6⟩ := dmB_bits (rch A b 1) (rch A b 2) (rch A b 3) (rch A b 4) (rch A b 5) (rch A b 6)
  by_cases h : 1 ≤ l ∧ l ≤ 6
  · rcases (show l = 1 ∨ l = 2 ∨ l = 3 ∨ l = 4 ∨ l = 5 ∨ l = 6 by omega) with rfl | rfl | rfl | rfl | rfl | rfl
    · exact q1
    · exact q2
    · exact q3
    · exact q4
    · exact q5
    · exact q6
  · have h1 : rch A b l = false := by
      unfold rch
      rcases (show l < 1 ∨ 6 < l by omega) with x | x
      · rw [show decide (1 ≤ l) = false from decide_eq_false (by omega)]; rfl
      · rw [show decide (l ≤ 6) = false from decide_eq_false (by omega)]; simp
    rw [h1]
    rcases (show l = 0 ∨ 7 ≤ l by omega) with x | x
    · subst x; exact q0
    · exact Nat.testBit_lt_two_pow (Nat.lt_of_lt_of_le q (Nat.pow_le_pow_right (show 0 < 2 by decide) x))
theorem rB_of {A : Row} {c : Nat} {R S : Nat → Nat} (w : WF A c) (h : isD A (dOf R S)) (hd : ∀ b l, b < 10 → (R b).testBit l = true → dck A b l ∧ 1 ≤ S (7 * b + l)) (b : Nat) (hb : b < 10) : R b = rB A b := by
  apply Nat.eq_of_testBit_eq
  intro l
  rw [rB_bit]
  unfold rch
  by_cases hl : 1 ≤ l ∧ l ≤ 6
  · have e := aD_eq w h b l hb (by omega)
    rw [← e, dOf_at (by omega)]
    cases q : (R b).testBit l with
    | true =>
      have := (hd b l hb q).2
      rw [if_pos rfl, show decide (1 ≤ l) = true from decide_eq_true hl.1, show decide (l ≤ 6) = true from decide_eq_true hl.2, show decide (S (7 * b + l) ≠ 0) = true from decide_eq_true (by omega)]; rfl
    | false => rw [if_neg (by decide)]; simp
  · cases q : (R b).testBit l with
    | true => have := dck_lt w (hd b l hb q).1; omega
    | false =>
      symm
      rcases (show l < 1 ∨ 6 < l by omega) with x | x
      · rw [show decide (1 ≤ l) = false from decide_eq_false (by omega)]; rfl
      · rw [show decide (l ≤ 6) = false from decide_eq_false (by omega)]; simp
