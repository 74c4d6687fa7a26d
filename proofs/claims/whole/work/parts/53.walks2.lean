/-! ===== LAYER 3: the reference's walks, the loops ===== -/
theorem not_onW117 (j : Nat) : ¬ onW 117 j := by unfold onW; omega
/-- the reference's far, as a row's distances -/
def FarR (M : mM) (A : Row) : Prop := (∀ b l, b < 10 → l < 7 → M.1 123 (7 * b + l) = fI (aD A (7 * b + l))) ∧ M.1 116 13 = nI (cntD (aD A)) ∧ ∀ v, v < 70 → aD A v ≤ 70
theorem isD_JW {A : Row} {c : Nat} {D Q : Nat → Nat} {k n : Nat} (w : WF A c) (h : JW A k D Q n) (hk : n ≤ k) : isD A D := by
  obtain ⟨⟨j1, j2, j3, j4, j5, j6, -⟩, j7, j8, -⟩ := h
  refine ⟨fun b l hb hl hq => (j3 b l hb hl hq).1, j7, j5, j6, fun b l b' l' hb hl hq ha hd => ?_⟩
  obtain ⟨-, i, hi, hqi⟩ := j3 b l hb hl hq
  exact j8 i b l b' l' (by omega) hb hl hqi ha hd
theorem cntD_congr {D D' : Nat → Nat} (h : ∀ b l, b < 10 → l < 7 → D (7 * b + l) = D' (7 * b + l)) : cntD D = cntD D' := by
  unfold cntD
  refine sm_congr (fun i hi => ?_)
  have := h (i / 7) (i % 7) (by omega) (by omega)
  rw [show 7 * (i / 7) + i % 7 = i by omega] at this
  rw [this]
theorem JB_zero (A : Row) : JB A (fun _ => 0) (fun _ => 0) 0 := by
  refine ⟨?_, ?_, ?_, ?_, ?_, ?_, ?_⟩
  · decide +kernel
  · intro i hi; exact absurd hi (by omega)
  · intro b l _ _ hq; exact absurd (Eq.refl 0) hq
  · intro i j _ hj; exact absurd hj (by omega)
  · intro b l _ _ hq; exact absurd (show (0 : Nat) = 1 from hq) (by omega)
  · intro b l k _ _ hk hq; exact absurd (show (0 : Nat) = k + 1 from hq) (by omega)
  · intro v _; exact Nat.zero_le _
section MWl
variable {N : Nat} {Z : mZ} {A : Row} {c : Nat}
theorem lad_has {b l : Nat} (h1 : 1 ≤ l) (h6 : l ≤ 6) : aHas A 5 b l = lad A b l := by
  unfold aHas lad; rw [mkS_row (by omega), show rwB 5 = 101 from rfl]; simp [h1, h6]
/-- a neighbour that comes only if something is so -/
theorem m_come' (hM : ModAt Z) (w : WF A c) {M : mM} (hR : RowAt M 117 A) {D Q : Nat → Nat} {n k b l b' l' : Nat} (q : Bool) (hq : FQ M D Q n) (hj : JW A k D Q n) (hk : k < n) (hb : b < 10) (hl : l < 7) (hQ : Q k = 7 * b + l) (hb' : b' < 10) (hl' : q = true → l' < 7) (ha : q = true → adj A b l b' l') :
    ∃ M' D' Q' n', (q = true → fX9_comes N Z 116 (nI b') (nI l') (nI (D (7 * b + l) + 1)) M = some ((), M')) ∧ (q = false → M' = M) ∧ Fr onW M M' ∧ FQ M' D' Q' n' ∧ JW A k D' Q' n' ∧ k < n' ∧ Q' k = Q k ∧ (∀ v, v < 70 → D v ≠ 0 → D' v = D v) ∧ (q = true → dck A b' l' → D' (7 * b' + l') ≠ 0 ∧ D' (7 * b' + l') ≤ D (7 * b + l) + 1) := by
  cases q with
  | false => exact ⟨M, D, Q, n, fun h => Bool.noConfusion h, fun _ => rfl, Fr.rfl, hq, hj, hk, rfl, fun _ _ _ => rfl, fun h => Bool.noConfusion h⟩
  | true =>
    obtain ⟨M', D', Q', n', e1, e2, e3, e4, e5, e6, e7, e8⟩ := m_come (N := N) hM w hR hq hj hk hb hl hQ hb' (hl' rfl) (ha rfl)
    exact ⟨M', D', Q', n', fun _ => e1, fun h => Bool.noConfusion h, e2, e3, e4, e5, e6, e7, fun _ => e8⟩
theorem m_walks64 (hM : ModAt Z) (w : WF A c) : ∀ (j k fu : Nat) (M : mM) (D Q : Nat → Nat) (n : Nat), k + j = 70 → j < fu → RowAt M 117 A → FQ M D Q n → JW A k D Q n →
    ∃ M', fX9_walks_64 N Z fu 116 (nI k) M = some ((), M') ∧ Fr onW M M' ∧ FarR M' A ∧ isD A (aD A) := by
  have h1 := w.1
  have stop : ∀ (k fu : Nat) (M : mM) (D Q : Nat → Nat) (n : Nat), k ≤ 70 → FQ M D Q n → JW A k D Q n → n ≤ k → ∃ M', fX9_walks_64 N Z (fu + 1) 116 (nI k) M = some ((), M') ∧ Fr onW M M' ∧ FarR M' A ∧ isD A (aD A) := by
    intro k fu M D Q n hk hq hj hn
    have hD := isD_JW w hj hn
    have hn70 : n ≤ 70 := by rw [hj.1.1]; exact cntD_le D
    refine ⟨M, ?_, Fr.rfl, ⟨fun b l hb hl => ?_, ?_, fun v hv => ?_⟩, aD_is hD⟩
    · rw [fX9_walks_64, ck_t hM.1, hq.2.2, if_pos (by rw [i_le (by omega) (by omega)]; omega)]
    · rw [← aD_eq w hD b l hb hl]; exact hq.1 _ (by omega)
    · rw [hq.2.2, hj.1.1, cntD_congr (fun b l hb hl => aD_eq w hD b l hb hl)]
    · have e := aD_eq w hD (v / 7) (v % 7) (by omega) (by omega)
      have e2 := hj.1.2.2.2.2.2.2 v hv
      rw [show 7 * (v / 7) + v % 7 = v by omega] at e
      omega
  intro j
  induction j with
  | zero =>
    intro k fu M D Q n h2 h3 hR hq hj
    obtain ⟨fu, rfl⟩ : ∃ q, fu = q + 1 := ⟨fu - 1, by omega⟩
    have hn70 : n ≤ 70 := by rw [hj.1.1]; exact cntD_le D
    exact stop k fu M D Q n (by omega) hq hj (by omega)
  | succ j ih =>
    intro k fu M D Q n h2 h3 hR hq hj
    obtain ⟨fu, rfl⟩ : ∃ q, fu = q + 1 := ⟨fu - 1, by omega⟩
    have hn70 : n ≤ 70 := by rw [hj.1.1]; exact cntD_le D
    by_cases hk : n ≤ k
    · exact stop k fu M D Q n (by omega) hq hj hk
    have hk : k < n := by omega
    obtain ⟨b, l, hb, hl, hQ, hD⟩ := hj.1.2.1 k hk
    have hdb := (hj.1.2.2.1 b l hb hl hD).1
    have hbl := dck_lt w hdb
    have hD70 := hj.1.2.2.2.2.2.2 (7 * b + l) (by omega)
    have hL := aL_lt w hdb.1
    have hRr := aR_lt w hdb.1
    have gm := hM
    obtain ⟨o1, ⟨-, -, -, -, -, -, r11, r12, -⟩, -, -, -, -, -, -, ⟨a4, a5, a6⟩, ⟨b4, b5, b6⟩, -⟩ := hM
    -- the four neighbours
    obtain ⟨M1, D1, Q1, n1, c1, c1', fr1, hq1, hj1, hk1, hQ1, kp1, cl1⟩ := m_come' (N := N) gm w hR (b' := b) (l' := l - 1) (aHas A 5 b l) hq hj hk hb hl hQ hb (fun _ => by omega) (fun h => Or.inl ⟨rfl, Or.inl ⟨by omega, by rw [lad_has hbl.2.1 hbl.2.2] at h; exact h⟩⟩)
    have hR1 := hR.fr fr1 not_onW117
    have hD1 : D1 (7 * b + l) = D (7 * b + l) := kp1 _ (by omega) hD
    obtain ⟨M2, D2, Q2, n2, c2, c2', fr2, hq2, hj2, hk2, hQ2, kp2, cl2⟩ := m_come' (N := N) gm w hR1 (b' := b) (l' := l + 1) (aHas A 5 b (l + 1)) hq1 hj1 hk1 hb hl (by rw [hQ1]; exact hQ) hb (fun h => by
      unfold aHas at h; simp only [Bool.and_eq_true, decide_eq_true_eq] at h; omega) (fun h => Or.inl ⟨rfl, Or.inr ⟨rfl, by
        have h6 : l + 1 ≤ 6 := by unfold aHas at h; simp only [Bool.and_eq_true, decide_eq_true_eq] at h; omega
        rw [lad_has (by omega) h6] at h; exact h⟩⟩)
    have hR2 := hR1.fr fr2 not_onW117
    have hD2 : D2 (7 * b + l) = D (7 * b + l) := by rw [kp2 _ (by omega) (by omega)]; exact hD1
    obtain ⟨M3, D3, Q3, n3, c3, fr3, hq3, hj3, hk3, hQ3, kp3, cl3⟩ := m_come (N := N) gm w hR2 (b' := aL A b) (l' := l) hq2 hj2 hk2 hb hl (by rw [hQ2, hQ1]; exact hQ) (by omega) hl (Or.inr ⟨rfl, Or.inl rfl⟩)
    have hR3 := hR2.fr fr3 not_onW117
    have hD3 : D3 (7 * b + l) = D (7 * b + l) := by rw [kp3 _ (by omega) (by omega)]; exact hD2
    obtain ⟨M4, D4, Q4, n4, c4, fr4, hq4, hj4, hk4, hQ4, kp4, cl4⟩ := m_come (N := N) gm w hR3 (b' := aR A b) (l' := l) hq3 hj3 hk3 hb hl (by rw [hQ3, hQ2, hQ1]; exact hQ) (by omega) hl (Or.inr ⟨rfl, Or.inr rfl⟩)
    have hR4 := hR3.fr fr4 not_onW117
    have hD4 : D4 (7 * b + l) = D (7 * b + l) := by rw [kp4 _ (by omega) (by omega)]; exact hD3
    rw [hD1] at c2 cl2
    rw [hD2] at c3 cl3
    rw [hD3] at c4 cl4
    have hQk : Q4 k = 7 * b + l := by rw [hQ4, hQ3, hQ2, hQ1]; exact hQ
    have hj' : JW A (k + 1) D4 Q4 n4 := by
      obtain ⟨g1, g2, g3, g4⟩ := hj4
      refine ⟨g1, g2, fun i b2 l2 b3 l3 hi hb2 hl2 hq2' ha hd => ?_, fun hk5 j hj5 => ?_⟩
      · by_cases e : i = k
        · subst e
          obtain ⟨rfl, rfl⟩ : b2 = b ∧ l2 = l := by omega
          rw [hD4]
          have hd3 := dck_lt w hd
          have hv3 : 7 * b3 + l3 < 70 := by omega
          rcases ha with ⟨rfl, ⟨q1, q2⟩ | ⟨q1, q2⟩⟩ | ⟨rfl, q | q⟩
          · have hc := cl1 (by rw [lad_has hbl.2.1 hbl.2.2]; exact q2) (by rw [show l2 - 1 = l3 by omega]; exact hd)
            rw [show l2 - 1 = l3 by omega] at hc
            have x2 : D2 (7 * b3 + l3) = D1 (7 * b3 + l3) := kp2 _ hv3 hc.1
            have x3 : D3 (7 * b3 + l3) = D2 (7 * b3 + l3) := kp3 _ hv3 (by omega)
            have x4 : D4 (7 * b3 + l3) = D3 (7 * b3 + l3) := kp4 _ hv3 (by omega)
            rw [x4, x3, x2]; exact hc
          · subst q1
            have hc := cl2 (by rw [lad_has (by omega) hd3.2.2]; exact q2) hd
            have x3 : D3 (7 * b3 + (l2 + 1)) = D2 (7 * b3 + (l2 + 1)) := kp3 _ hv3 hc.1
            have x4 : D4 (7 * b3 + (l2 + 1)) = D3 (7 * b3 + (l2 + 1)) := kp4 _ hv3 (by omega)
            rw [x4, x3]; exact hc
          · subst q
            have hc := cl3 hd
            have x4 : D4 (7 * aL A b2 + l3) = D3 (7 * aL A b2 + l3) := kp4 _ hv3 hc.1
            rw [x4]; exact hc
          · subst q; exact cl4 hd
        · exact g3 i b2 l2 b3 l3 (by omega) hb2 hl2 hq2' ha hd
      · have x1 := g4 hk4 j hj5
        have x2 := g1.2.2.2.1 k (k + 1) (by omega) hk5
        omega
    obtain ⟨M', d1, d2, d3, d4⟩ := ih (k + 1) fu M4 D4 Q4 n4 (by omega) (by omega) hR4 hq4 hj'
    refine ⟨M', ?_, (((fr1.trans fr2).trans fr3).trans fr4).trans d2, d3, d4⟩
    have hu : 7 * b + l < 70 := by omega
    have t1 : (7 * b + l) / 7 = b := by omega
    have t2 : (7 * b + l) % 7 = l := by omega
    have i128 : ∀ M2', fX9_walks_151 N Z (fun w0 w1 M9 => fX9_walks_64 N Z fu w0 w1 M9) 116 (nI k) (nI b) (nI l) (nI (D (7 * b + l) + 1)) M2' = some ((), M') → (aHas A 5 b (l + 1) = true → fX9_comes N Z 116 (nI b) (nI (l + 1)) (nI (D (7 * b + l) + 1)) M1 = some ((), M2')) → (aHas A 5 b (l + 1) = false → M2' = M1) →
        fX9_walks_128 N Z (fun w0 w1 M9 => fX9_walks_64 N Z fu w0 w1 M9) 116 (nI k) (nI b) (nI l) (nI (D (7 * b + l) + 1)) M1 = some ((), M') := by
      intro M2' z1 z2 z3
      unfold fX9_walks_128
      rw [ck_t o1, nI_1, m_has101 gm hR1 w hb (by omega), bnd2_some, ite_b]
      cases hh : aHas A 5 b (l + 1) with
      | false => rw [if_neg (by decide), ← z3 hh]; exact z1
      | true => rw [if_pos rfl, z2 hh, bnd2_some]; exact z1
    have e151 : fX9_walks_151 N Z (fun w0 w1 M9 => fX9_walks_64 N Z fu w0 w1 M9) 116 (nI k) (nI b) (nI l) (nI (D (7 * b + l) + 1)) M2 = some ((), M') := by
      unfold fX9_walks_151
      rw [ck_t o1, m_left gm hR2 w hdb.1, bnd2_some, c3, bnd2_some, m_right gm hR3 w hdb.1, bnd2_some, c4, bnd2_some, nI_1]
      exact d1
    have e128 := i128 M2 e151 c2 c2'
    have hfar : M.1 123 (7 * b + l) = nI (D (7 * b + l)) := by rw [hq.1 _ hu]; unfold fI; rw [if_neg hD]
    rw [fX9_walks_64, ck_t o1, hq.2.2, if_neg (by rw [i_le (by omega) (by omega)]; omega), r12, bnd1_some, ck_t b5, b6, ck_t (by rw [i_inB (by omega)]; exact decide_eq_true (by omega)), r11, bnd1_some, ck_t a5, a6, i_cl (by omega), hq.2.1 k hk, hQ, (div7 _ hu).2, (div7 _ hu).1, t1, t2, ck_t (by rw [i_inB (by omega)]; exact decide_eq_true hu), i_cl (by omega), hfar, nI_1, m_has101 gm hR w hb (by omega), bnd2_some, ite_b]
    cases hh : aHas A 5 b l with
    | false => rw [if_neg (by decide), ← c1' hh]; exact e128
    | true => rw [if_pos rfl, show nI l - 1 = nI (l - 1) from i_sub (b := 1) hbl.2.1, c1 hh, bnd2_some]; exact e128
theorem m_walks28 (hM : ModAt Z) (w : WF A c) (hN : 5000 ≤ N) : ∀ (j i fu : Nat) (M : mM) (D Q : Nat → Nat) (n : Nat), i + j = A 0 → j < fu → RowAt M 117 A → FQ M D Q n → JB A D Q n → (∀ v, v < 70 → D v ≤ 1) → (∀ b, b < i → dck A b 1 → lad A b 1 = true → D (7 * b + 1) = 1) →
    ∃ M', fX9_walks_28 N Z fu 116 (nI i) M = some ((), M') ∧ Fr onW M M' ∧ FarR M' A ∧ isD A (aD A) := by
  have h1 := w.1
  have gm := hM
  obtain ⟨o1, ⟨r0, -⟩, ⟨g4, g5, g6⟩, -⟩ := hM
  have hQ70 : ∀ {D Q : Nat → Nat} {n : Nat}, JB A D Q n → (∀ v, v < 70 → D v ≤ 1) → ∀ j, j < n → D (Q j) ≤ 1 := fun hj h0 j hjn => by
    obtain ⟨b, l, q1, q2, q3, -⟩ := hj.2.1 j hjn
    rw [q3]; exact h0 _ (by omega)
  intro j
  induction j with
  | zero =>
    intro i fu M D Q n h2 h3 hR hq hj h0 hs
    obtain ⟨fu, rfl⟩ : ∃ q, fu = q + 1 := ⟨fu - 1, by omega⟩
    obtain ⟨M', d1, d2, d3, d4⟩ := m_walks64 (N := N) gm w 70 0 N M D Q n (by omega) (by omega) hR hq ⟨hj, fun b hd hl => hs b (by have := hd.1; omega) hd hl, fun i b l b' l' hi => by omega, fun _ j hjn => by have := hQ70 hj h0 j hjn; omega⟩
    refine ⟨M', ?_, d2, d3, d4⟩
    rw [fX9_walks_28, ck_t o1, r0, bnd1_some, ck_t g5, g6, ck_t (by decide), cl_0, hR _ (by omega), if_pos (by rw [i_le (by omega) (by omega)]; omega)]
    exact d1
  | succ j ih =>
    intro i fu M D Q n h2 h3 hR hq hj h0 hs
    obtain ⟨fu, rfl⟩ : ∃ q, fu = q + 1 := ⟨fu - 1, by omega⟩
    have hh := m_has101 (N := N) gm hR w (p := i) (l := 1) (by omega) (by omega)
    have hla := lad_has (A := A) (b := i) (l := 1) (by omega) (by omega)
    have hmc := m_comes (N := N) (d := 1) gm w hR hq hj (b := i) (l := 1) (by omega) (by omega)
    rw [fX9_walks_28, ck_t o1, r0, bnd1_some, ck_t g5, g6, ck_t (by decide), cl_0, hR _ (by omega), if_neg (by rw [i_le (by omega) (by omega)]; omega), show (1 : Int32) = nI 1 from rfl, hh, bnd2_some]
    rw [ite_b, nI_add]
    cases hx : aHas A 5 i 1 with
    | false =>
      rw [if_neg (by decide)]
      exact ih (i + 1) fu M D Q n (by omega) (by omega) hR hq hj h0 (fun b hb hd hl => by
        by_cases e : b = i
        · subst e; rw [← hla, hx] at hl; cases hl
        · exact hs b (by omega) hd hl)
    | true =>
      rw [if_pos rfl]
      by_cases hd : dck A i 1 ∧ D (7 * i + 1) = 0
      · obtain ⟨M1, e1, e2, e3⟩ := hmc.2 hd.1 hd.2 (by omega)
        have hj' := hj.add (d := 1) (show i < 10 by omega) (show 1 < 7 by omega) hd.1 hd.2 (by omega) (by omega) (hQ70 hj h0) (Or.inl ⟨rfl, rfl, by rw [← hla]; exact hx⟩)
        obtain ⟨M', d1, d2, d3, d4⟩ := ih (i + 1) fu M1 _ _ _ (by omega) (by omega) (hR.fr e2 not_onW117) e3 hj' (fun v hv => by
          by_cases e : v = 7 * i + 1
          · subst e; rw [updN_eq]; omega
          · rw [updN_ne e]; exact h0 v hv) (fun b hb hd2 hl => by
          by_cases e : b = i
          · subst e; rw [updN_eq]
          · rw [updN_ne (by omega)]; exact hs b (by omega) hd2 hl)
        refine ⟨M', ?_, e2.trans d2, d3, d4⟩
        rw [e1, bnd2_some]; exact d1
      · rw [hmc.1 hd, bnd2_some]
        exact ih (i + 1) fu M D Q n (by omega) (by omega) hR hq hj h0 (fun b hb hd2 hl => by
          by_cases e : b = i
          · subst e
            have : D (7 * b + 1) ≠ 0 := fun q => hd ⟨hd2, q⟩
            have := h0 (7 * b + 1) (by omega)
            omega
          · exact hs b (by omega) hd2 hl)
theorem m_walks7 (hM : ModAt Z) {M : mM} : ∀ (j i fu : Nat), i + j = 70 → j < fu → fX9_walks_7 N Z fu 116 (nI i) (fillA M 123 (fun _ => -1) i) = fX9_walks_28 N Z N 116 0 (fillA M 123 (fun _ => -1) 70) := by
  obtain ⟨o1, ⟨-, -, -, -, -, -, r11, -⟩, -, -, -, -, -, -, ⟨a4, a5, a6⟩, -⟩ := hM
  intro j
  induction j with
  | zero =>
    intro i fu h2 h3
    obtain ⟨fu, rfl⟩ : ∃ q, fu = q + 1 := ⟨fu - 1, by omega⟩
    have h4 : i = 70 := by omega
    subst h4
    rw [fX9_walks_7, if_pos (by rw [i_70, i_le (by omega) (by omega)]; omega)]
  | succ j ih =>
    intro i fu h2 h3
    obtain ⟨fu, rfl⟩ : ∃ q, fu = q + 1 := ⟨fu - 1, by omega⟩
    have hi := ih (i + 1) fu (by omega) (by omega)
    rw [fX9_walks_7, if_neg (by rw [i_70, i_le (by omega) (by omega)]; omega), ck_t o1, r11, bnd1_some, ck_t a4, a6, ck_t (by rw [i_inB (by omega)]; exact decide_eq_true (by omega)), i_cl (by omega), nI_1, fillA_s (g := fun _ => -1) rfl]
    exact hi
/-- the reference walks -/
theorem m_walks (hM : ModAt Z) (w : WF A c) (hN : 5000 ≤ N) {M : mM} (hR : RowAt M 117 A) : ∃ M', fX9_walks N Z 116 M = some ((), M') ∧ Fr onW M M' ∧ FarR M' A ∧ isD A (aD A) := by
  have h1 := w.1
  have e1 := m_walks7 (N := N) (M := sI M 116 13 0) hM 70 0 N (by omega) (by omega)
  rw [fillA_0] at e1
  have fr : Fr onW M (fillA (sI M 116 13 0) 123 (fun _ => -1) 70) := (Fr.put (P := onW) (Or.inr (Or.inr ⟨rfl, rfl⟩))).trans ((Same.fill (S := fun x => x = 123) rfl).fr.mono (fun a j h => Or.inl h))
  obtain ⟨M', d1, d2, d3, d4⟩ := m_walks28 (N := N) hM w hN (A 0) 0 N _ (fun _ => 0) (fun _ => 0) 0 (by omega) (by omega) (hR.fr fr not_onW117) ⟨fun v hv => by rw [fillA_in hv]; rfl, fun i hi => by omega, by rw [fillA_ne (by omega), sI_same]; rfl⟩
    (JB_zero A) (fun v hv => by omega) (fun b hb => by omega)
  refine ⟨M', ?_, fr.trans d2, d3, d4⟩
  unfold fX9_walks
  rw [ck_t hM.1]
  exact e1.trans d1
theorem m_reached (hM : ModAt Z) {M : mM} (hF : FarR M A) {b l : Nat} (hb : b < 10) (hl : l < 2147483648) : fX9_isReached N Z 116 (nI b) (nI l) M = some (if rch A b l then 1 else 0, M) := by
  obtain ⟨o1, ⟨-, -, -, -, -, -, r11, -⟩, -, -, -, -, -, -, ⟨a4, a5, a6⟩, -⟩ := hM
  have ha : ∀ v, v < 70 → aD A v < 1000 := fun v hv => by have := hF.2.2 v hv; omega
  unfold fX9_isReached rch
  rw [m_in16 hl, bnd2_some]
  by_cases h : 1 ≤ l ∧ l ≤ 6
  · rw [if_pos h, if_neg (by decide), ck_t o1, r11, bnd1_some, ck_t a5, a6, i_7, pk_mul, nI_add, ck_t (by rw [i_inB (by omega)]; exact decide_eq_true (by omega)), i_cl (by omega), hF.1 b l hb (by omega)]
    by_cases q : aD A (7 * b + l) = 0
    · rw [if_pos ((fI_lt _ (ha _ (by omega))).2 q)]; simp [q]
    · rw [if_neg (fun x => q ((fI_lt _ (ha _ (by omega))).1 x))]; simp [q, h.1, h.2]
  · rw [if_neg h, if_pos rfl, if_neg (by simp; omega)]
end MWl
