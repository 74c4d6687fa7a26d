/-! ===== LAYER 3: the reference's walks ===== -/
/-- memory is the same off some fields -/
def Fr (P : Nat → Nat → Prop) (M M' : mM) : Prop := (∀ a j, ¬ P a j → M'.1 a j = M.1 a j) ∧ M'.2 = M.2
theorem Fr.rfl {P : Nat → Nat → Prop} {M : mM} : Fr P M M := ⟨fun _ _ _ => Eq.refl _, Eq.refl _⟩
theorem Fr.trans {P : Nat → Nat → Prop} {M M' M'' : mM} (h : Fr P M M') (h' : Fr P M' M'') : Fr P M M'' := ⟨fun a j ha => (h'.1 a j ha).trans (h.1 a j ha), h'.2.trans h.2⟩
theorem Fr.mono {P P' : Nat → Nat → Prop} {M M' : mM} (h : Fr P M M') (hs : ∀ a j, P a j → P' a j) : Fr P' M M' := ⟨fun a j ha => h.1 a j (fun q => ha (hs a j q)), h.2⟩
theorem Fr.put {P : Nat → Nat → Prop} {M : mM} {b k : Nat} {v : Int32} (h : P b k) : Fr P M (sI M b k v) := ⟨fun a j ha => sI_ne M v (fun q => ha (by rw [q.1, q.2]; exact h)), Eq.refl _⟩
theorem Same.fr {S : Nat → Prop} {M M' : mM} (h : Same S M M') : Fr (fun a _ => S a) M M' := ⟨fun a j ha => h.1 a ha j, h.2⟩
theorem Fr.same {S : Nat → Prop} {P : Nat → Nat → Prop} {M M' : mM} (h : Fr P M M') (hs : ∀ a j, P a j → S a) : Same S M M' := ⟨fun a ha j => h.1 a j (fun q => ha (hs a j q)), h.2⟩
theorem RowAt.fr {P : Nat → Nat → Prop} {M M' : mM} {r : Nat} {A : Row} (h : RowAt M r A) (s : Fr P M M') (hd : ∀ j, ¬ P r j) : RowAt M' r A := fun i hi => by rw [s.1 r i (hd i)]; exact h i hi
theorem div7 : ∀ x, x < 70 → nI x / (7 : Int32) = nI (x / 7) ∧ nI x - nI x / (7 : Int32) * (7 : Int32) = nI (x % 7) := by decide +kernel
def fI (d : Nat) : Int32 := if d = 0 then -1 else nI d
theorem fI_neg (d : Nat) (hd : d < 1000) : (0 ≤ fI d) ↔ d ≠ 0 := by
  unfold fI
  by_cases h : d = 0
  · rw [if_pos h]; simp [h]
  · rw [if_neg h]; exact ⟨fun _ => h, fun _ => nI_pos' (by omega)⟩
theorem fI_lt (d : Nat) (hd : d < 1000) : (fI d < 0) ↔ d = 0 := by
  unfold fI
  by_cases h : d = 0
  · rw [if_pos h]; simp [h]
  · rw [if_neg h]; exact ⟨fun q => absurd q (nI_pos (by omega)), fun q => absurd q h⟩
def cntD (D : Nat → Nat) : Nat := sm (fun v => if D v = 0 then 0 else 1) 70
def updN (D : Nat → Nat) (v x : Nat) : Nat → Nat := fun i => if i = v then x else D i
theorem updN_eq {D : Nat → Nat} {v x : Nat} : updN D v x v = x := if_pos rfl
theorem updN_ne {D : Nat → Nat} {v x i : Nat} (h : i ≠ v) : updN D v x i = D i := if_neg h
def JB (A : Row) (D Q : Nat → Nat) (n : Nat) : Prop := n = cntD D ∧ (∀ i, i < n → ∃ b l, b < 10 ∧ l < 7 ∧ Q i = 7 * b + l ∧ D (7 * b + l) ≠ 0) ∧ (∀ b l, b < 10 → l < 7 → D (7 * b + l) ≠ 0 → dck A b l ∧ ∃ i, i < n ∧ Q i = 7 * b + l) ∧
  (∀ i j, i ≤ j → j < n → D (Q i) ≤ D (Q j)) ∧ (∀ b l, b < 10 → l < 7 → D (7 * b + l) = 1 → l = 1 ∧ lad A b 1 = true) ∧
  (∀ b l k, b < 10 → l < 7 → 1 ≤ k → D (7 * b + l) = k + 1 → ∃ b' l', b' < 10 ∧ l' < 7 ∧ D (7 * b' + l') = k ∧ adj A b' l' b l) ∧ (∀ v, v < 70 → D v ≤ n)
theorem JB.add {A : Row} {D Q : Nat → Nat} {n b l d : Nat} (h : JB A D Q n) (hb : b < 10) (hl : l < 7) (hd : dck A b l) (h0 : D (7 * b + l) = 0) (h1 : 1 ≤ d) (hd70 : d ≤ n + 1) (hm : ∀ j, j < n → D (Q j) ≤ d)
    (hw : (d = 1 ∧ l = 1 ∧ lad A b 1 = true) ∨ ∃ b' l', b' < 10 ∧ l' < 7 ∧ D (7 * b' + l') + 1 = d ∧ D (7 * b' + l') ≠ 0 ∧ adj A b' l' b l) : JB A (updN D (7 * b + l) d) (updN Q n (7 * b + l)) (n + 1) := by
  obtain ⟨j1, j2, j3, j4, j5, j6, j7⟩ := h
  have nn : ∀ w, D w ≠ 0 → w ≠ 7 * b + l := fun w hw e => hw (by rw [e]; exact h0)
  refine ⟨?_, ?_, ?_, ?_, ?_, ?_, ?_⟩
  · have := sm_one (f := fun v => if D v = 0 then 0 else 1) (g := fun v => if updN D (7 * b + l) d v = 0 then 0 else 1) (p := 7 * b + l) (n := 70) (by omega) (fun i _ e => by show _ = (if updN D (7 * b + l) d i = 0 then 0 else 1); rw [updN_ne e])
    rw [h0, if_pos rfl, updN_eq, if_neg (by omega)] at this
    unfold cntD at j1 ⊢
    omega
  · intro i hi
    by_cases e : i = n
    · subst e; exact ⟨b, l, hb, hl, updN_eq, by rw [updN_eq]; omega⟩
    · obtain ⟨b', l', q1, q2, q3, q4⟩ := j2 i (by omega)
      exact ⟨b', l', q1, q2, by rw [updN_ne e]; exact q3, by rw [updN_ne (nn _ q4)]; exact q4⟩
  · intro b' l' hb' hl' hq
    by_cases e : 7 * b' + l' = 7 * b + l
    · obtain ⟨rfl, rfl⟩ : b' = b ∧ l' = l := by omega
      exact ⟨hd, n, by omega, updN_eq⟩
    · rw [updN_ne e] at hq
      obtain ⟨q1, i, q2, q3⟩ := j3 b' l' hb' hl' hq
      exact ⟨q1, i, by omega, by rw [updN_ne (by omega)]; exact q3⟩
  · intro i j hij hj
    have dq : ∀ i, i < n → updN D (7 * b + l) d (updN Q n (7 * b + l) i) = D (Q i) := fun i hi => by
      obtain ⟨b', l', q1, q2, q3, q4⟩ := j2 i hi
      rw [updN_ne (show i ≠ n by omega), updN_ne (by rw [q3]; exact nn _ q4)]
    have dn : updN D (7 * b + l) d (updN Q n (7 * b + l) n) = d := by rw [updN_eq, updN_eq]
    by_cases e : j = n
    · subst e
      rw [dn]
      by_cases e2 : i = j
      · subst e2; rw [dn]; omega
      · rw [dq i (by omega)]; exact hm i (by omega)
    · rw [dq i (by omega), dq j (by omega)]; exact j4 i j hij (by omega)
  · intro b' l' hb' hl' hq
    by_cases e : 7 * b' + l' = 7 * b + l
    · obtain ⟨rfl, rfl⟩ : b' = b ∧ l' = l := by omega
      rw [updN_eq] at hq
      rcases hw with hw | ⟨b2, l2, -, -, hw, hw2, -⟩
      · exact hw.2
      · omega
    · rw [updN_ne e] at hq; exact j5 b' l' hb' hl' hq
  · intro b' l' k hb' hl' hk hq
    by_cases e : 7 * b' + l' = 7 * b + l
    · obtain ⟨rfl, rfl⟩ : b' = b ∧ l' = l := by omega
      rw [updN_eq] at hq
      rcases hw with hw | ⟨b2, l2, q1, q2, q3, q4, q5⟩
      · omega
      · exact ⟨b2, l2, q1, q2, by rw [updN_ne (nn _ q4)]; omega, q5⟩
    · rw [updN_ne e] at hq
      obtain ⟨b2, l2, q1, q2, q3, q4⟩ := j6 b' l' k hb' hl' hk hq
      exact ⟨b2, l2, q1, q2, by rw [updN_ne (nn _ (by omega))]; exact q3, q4⟩
  · intro v hv
    by_cases e : v = 7 * b + l
    · subst e; rw [updN_eq]; exact hd70
    · rw [updN_ne e]; have := j7 v hv; omega
/-- the memory of the search -/
def FQ (M : mM) (D Q : Nat → Nat) (n : Nat) : Prop := (∀ v, v < 70 → M.1 123 v = fI (D v)) ∧ (∀ i, i < n → M.1 124 i = nI (Q i)) ∧ M.1 116 13 = nI n
def onW (a j : Nat) : Prop := a = 123 ∨ a = 124 ∨ (a = 116 ∧ j = 13)
theorem cntD_lt {D : Nat → Nat} {v : Nat} (hv : v < 70) (h : D v = 0) : cntD D < 70 := by
  have := sm_lt (f := fun v => if D v = 0 then 0 else 1) (k := 1) (n := 70) hv (fun i _ => by show (if D i = 0 then 0 else 1) ≤ 1; split <;> omega) (by show (if D v = 0 then 0 else 1) < 1; rw [if_pos h]; omega)
  unfold cntD; omega
theorem cntD_le (D : Nat → Nat) : cntD D ≤ 70 := by
  have := sm_le (f := fun v => if D v = 0 then 0 else 1) (k := 1) (n := 70) (fun i _ => by show (if D i = 0 then 0 else 1) ≤ 1; split <;> omega)
  unfold cntD; omega
theorem dk_dck {A : Row} {c b l : Nat} (w : WF A c) (hb : b < 10) : 0 < dk A b l ↔ dck A b l := by
  unfold dk
  constructor
  · intro h
    by_cases q : 1 ≤ l ∧ l ≤ 6
    · rw [if_pos q] at h
      exact dm_out w hb (by rw [dm_bit A b q.1 q.2]; exact decide_eq_true h)
    · rw [if_neg q] at h; omega
  · intro h
    have q := dm_bit7 A b h.2
    rw [if_pos q]
    have := h.2
    rw [dm_bit A b q.1 q.2] at this
    exact of_decide_eq_true this
theorem dk_le {A : Row} {c b l : Nat} (w : WF A c) (hb : b < 10) : dk A b l ≤ 4 := by
  unfold dk
  split
  · exact w.2.2.2.2.2.2.1 b l hb (by omega)
  · omega
section MWk
variable {N : Nat} {Z : mZ} {A : Row} {c : Nat}
theorem m_comes (hM : ModAt Z) (w : WF A c) {M : mM} (hR : RowAt M 117 A) {D Q : Nat → Nat} {n b l d : Nat} (hq : FQ M D Q n) (hj : JB A D Q n) (hb : b < 10) (hl : l < 7) :
    (¬ (dck A b l ∧ D (7 * b + l) = 0) → fX9_comes N Z 116 (nI b) (nI l) (nI d) M = some ((), M)) ∧
    (dck A b l → D (7 * b + l) = 0 → 1 ≤ d → ∃ M', fX9_comes N Z 116 (nI b) (nI l) (nI d) M = some ((), M') ∧ Fr onW M M' ∧ FQ M' (updN D (7 * b + l) d) (updN Q n (7 * b + l)) (n + 1)) := by
  have e1 := m_deckAt (N := N) hM hR hb (l := l) (by omega)
  have hk := dk_dck (l := l) w hb
  have hk4 := dk_le (l := l) w hb
  obtain ⟨o1, ⟨-, -, -, -, -, -, r11, r12, -⟩, -, -, -, -, -, -, ⟨a4, a5, a6⟩, ⟨b4, b5, b6⟩, -⟩ := hM
  obtain ⟨f1, f2, f3⟩ := hq
  have hv : 7 * b + l < 70 := by omega
  have h7 := hj.2.2.2.2.2.2 (7 * b + l) hv
  have h8 := cntD_le D
  have h9 := hj.1
  have in7 : inB (nI (7 * b + l)) 70 = true := by rw [i_inB (by omega)]; exact decide_eq_true hv
  constructor
  · intro h
    unfold fX9_comes
    rw [ck_t o1, e1, bnd2_some]
    by_cases q : 0 < dk A b l
    · have hD : D (7 * b + l) ≠ 0 := fun q2 => h ⟨hk.1 q, q2⟩
      rw [if_neg (by rw [i_0, i_le (by omega) (by omega)]; omega), r11, bnd1_some, ck_t a5, a6, i_7, pk_mul, nI_add, ck_t in7, i_cl (by omega), f1 _ hv, if_pos ((fI_neg _ (by omega)).2 hD)]
    · rw [if_pos (by rw [i_0, i_le (by omega) (by omega)]; omega)]
  · intro hd h0 h1
    have q := hk.2 hd
    have hn : n < 70 := by rw [hj.1]; exact cntD_lt hv h0
    refine ⟨sI (sI (sI M 123 (7 * b + l) (nI d)) 124 n (nI (7 * b + l))) 116 13 (nI (n + 1)), ?_, ?_, ?_, ?_, ?_⟩
    · unfold fX9_comes
      rw [ck_t o1, e1, bnd2_some, if_neg (by rw [i_0, i_le (by omega) (by omega)]; omega), r11, bnd1_some, ck_t a5, a6, i_7, pk_mul, nI_add, ck_t in7, i_cl (by omega), f1 _ hv, if_neg (fun x => (fI_neg _ (by omega)).1 x h0), ck_t a4, r12, bnd1_some, ck_t b4, sI_ne M _ (show ¬ ((116 : Nat) = 123 ∧ (13 : Nat) = 7 * b + l) by omega), f3, b6, ck_t (by rw [i_inB (by omega)]; exact decide_eq_true hn), i_cl (by omega), sI_ne _ _ (show ¬ ((116 : Nat) = 124 ∧ (13 : Nat) = n) by omega), sI_ne M _ (show ¬ ((116 : Nat) = 123 ∧ (13 : Nat) = 7 * b + l) by omega), f3, nI_1]
    · exact ((Fr.put (P := onW) (Or.inl rfl)).trans (Fr.put (Or.inr (Or.inl rfl)))).trans (Fr.put (Or.inr (Or.inr ⟨rfl, rfl⟩)))
    · intro v hv'
      rw [sI_ne _ _ (by omega), sI_ne _ _ (by omega)]
      by_cases e : v = 7 * b + l
      · subst e; rw [sI_same, updN_eq]; unfold fI; rw [if_neg (by omega)]
      · rw [sI_ne _ _ (by omega), updN_ne e]; exact f1 v hv'
    · intro i hi
      rw [sI_ne _ _ (by omega)]
      by_cases e : i = n
      · subst e; rw [sI_same, updN_eq]
      · rw [sI_ne _ _ (by omega), sI_ne _ _ (by omega), updN_ne e]; exact f2 i (by omega)
    · rw [sI_same]
/-- the whole state of the search, with k of the queue done -/
def JW (A : Row) (k : Nat) (D Q : Nat → Nat) (n : Nat) : Prop := JB A D Q n ∧ (∀ b, dck A b 1 → lad A b 1 = true → D (7 * b + 1) = 1) ∧
  (∀ i b l b' l', i < k → b < 10 → l < 7 → Q i = 7 * b + l → adj A b l b' l' → dck A b' l' → D (7 * b' + l') ≠ 0 ∧ D (7 * b' + l') ≤ D (7 * b + l) + 1) ∧ (k < n → ∀ j, j < n → D (Q j) ≤ D (Q k) + 1)
/-- while one of the queue is worked at: the neighbours that came are closed -/
theorem m_come (hM : ModAt Z) (w : WF A c) {M : mM} (hR : RowAt M 117 A) {D Q : Nat → Nat} {n k b l b' l' : Nat} (hq : FQ M D Q n) (hj : JW A k D Q n) (hk : k < n) (hb : b < 10) (hl : l < 7) (hQ : Q k = 7 * b + l) (hb' : b' < 10) (hl' : l' < 7) (ha : adj A b l b' l') :
    ∃ M' D' Q' n', fX9_comes N Z 116 (nI b') (nI l') (nI (D (7 * b + l) + 1)) M = some ((), M') ∧ Fr onW M M' ∧ FQ M' D' Q' n' ∧ JW A k D' Q' n' ∧ k < n' ∧ Q' k = Q k ∧ (∀ v, v < 70 → D v ≠ 0 → D' v = D v) ∧ (dck A b' l' → D' (7 * b' + l') ≠ 0 ∧ D' (7 * b' + l') ≤ D (7 * b + l) + 1) := by
  obtain ⟨jb, j7, j8, j9⟩ := hj
  have hmc := m_comes (N := N) (d := D (7 * b + l) + 1) hM w hR hq jb hb' hl'
  have hDk : D (7 * b + l) ≠ 0 := by
    obtain ⟨b2, l2, q1, q2, q3, q4⟩ := jb.2.1 k hk
    obtain ⟨rfl, rfl⟩ : b2 = b ∧ l2 = l := by omega
    exact q4
  by_cases h : dck A b' l' ∧ D (7 * b' + l') = 0
  · obtain ⟨M', e1, e2, e3⟩ := hmc.2 h.1 h.2 (by omega)
    have hb9 : ∀ j, j < n → D (Q j) ≤ D (7 * b + l) + 1 := fun j hj => by rw [← hQ]; exact j9 hk j hj
    have h70 : D (7 * b + l) + 1 ≤ n + 1 := by
      have := jb.2.2.2.2.2.2 (7 * b + l) (by omega); omega
    have jb' := jb.add (d := D (7 * b + l) + 1) hb' hl' h.1 h.2 (by omega) h70 hb9 (Or.inr ⟨b, l, hb, hl, rfl, hDk, ha⟩)
    have nn : ∀ v, D v ≠ 0 → updN D (7 * b' + l') (D (7 * b + l) + 1) v = D v := fun v hv => updN_ne (fun e => hv (by rw [e]; exact h.2))
    refine ⟨M', _, _, _, e1, e2, e3, ⟨jb', ?_, ?_, ?_⟩, by omega, updN_ne (by omega), fun v _ hv => nn v hv, fun _ => ⟨by rw [updN_eq]; omega, by rw [updN_eq]; omega⟩⟩
    · intro b2 hd2 hl2
      have := j7 b2 hd2 hl2
      rw [nn _ (by omega)]; exact this
    · intro i b2 l2 b3 l3 hi hb2 hl2 hq2 ha2 hd3
      rw [updN_ne (by omega)] at hq2
      have h3 := j8 i b2 l2 b3 l3 hi hb2 hl2 hq2 ha2 hd3
      have h4 : D (7 * b2 + l2) ≠ 0 := by
        obtain ⟨b4, l4, q1, q2, q3, q4⟩ := jb.2.1 i (by omega)
        obtain ⟨rfl, rfl⟩ : b4 = b2 ∧ l4 = l2 := by omega
        exact q4
      rw [nn _ h3.1, nn _ h4]; exact h3
    · intro _ j hj
      have dk : updN D (7 * b' + l') (D (7 * b + l) + 1) (updN Q n (7 * b' + l') k) = D (7 * b + l) := by rw [updN_ne (show k ≠ n by omega), hQ, nn _ hDk]
      rw [dk]
      by_cases e : j = n
      · subst e; rw [updN_eq, updN_eq]; omega
      · rw [updN_ne e]
        obtain ⟨b4, l4, q1, q2, q3, q4⟩ := jb.2.1 j (by omega)
        rw [q3, nn _ q4, ← q3]; exact hb9 j (by omega)
  · refine ⟨M, D, Q, n, hmc.1 h, Fr.rfl, hq, ⟨jb, j7, j8, j9⟩, hk, rfl, fun _ _ _ => rfl, fun hd => ?_⟩
    have h0 : D (7 * b' + l') ≠ 0 := fun q => h ⟨hd, q⟩
    refine ⟨h0, ?_⟩
    obtain ⟨-, i, hi, hqi⟩ := jb.2.2.1 b' l' hb' hl' h0
    have := j9 hk i hi
    rw [hqi, hQ] at this; exact this
end MWk
