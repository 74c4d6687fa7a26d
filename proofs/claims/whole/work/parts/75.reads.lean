/-! ===== LAYER 3: what the reference counts and collects ===== -/
theorem in_cases (x : Int32) {lo hi : Nat} (hlo : lo < 2147483648) (hhi : hi < 2147483648) : (∃ v, x = nI v ∧ lo ≤ v ∧ v ≤ hi) ∨ ((∀ N Z M, fX9_in N Z x (nI lo) (nI hi) M = some (0, M)) ∧ (x < nI lo ∨ (¬ x < nI lo ∧ ¬ x ≤ nI hi))) := by
  rcases i32_cases x with h | ⟨l, hl, rfl⟩
  · right
    have h2 : x < nI lo := by
      rw [Int32.lt_iff_toInt_lt] at h ⊢
      rw [nI_toInt hlo]
      have : (0 : Int32).toInt = 0 := rfl
      omega
    exact ⟨fun N Z M => by unfold fX9_in; rw [if_pos h2], Or.inl h2⟩
  · by_cases c : lo ≤ l ∧ l ≤ hi
    · exact Or.inl ⟨l, rfl, c.1, c.2⟩
    · right
      refine ⟨fun N Z M => by rw [m_in hl hlo hhi, if_neg c], ?_⟩
      rw [i_lt hl hlo, i_le hl hhi]
      omega
theorem in_yes {N : Nat} {Z : mZ} {M : mM} {v lo hi : Nat} (h1 : lo ≤ v) (h2 : v ≤ hi) (hhi : hi < 2147483648) : fX9_in N Z (nI v) (nI lo) (nI hi) M = some (1, M) := by
  rw [m_in (by omega) (by omega) hhi, if_pos ⟨h1, h2⟩]
def cbF (f : Nat → Bool) : Nat → Nat → Nat → Nat
  | 0, _, acc => acc
  | j + 1, l, acc => cbF f j (l + 1) (acc + if f l then 1 else 0)
def sbF (f : Nat → Bool) : Nat → Nat → Nat → Nat
  | 0, _, acc => acc
  | j + 1, l, acc => sbF f j (l + 1) (acc ||| if f l then 2 ^ l else 0)
theorem cb_all : ∀ b1 b2 b3 b4 b5 b6 : Bool, 0 + (if b1 then 1 else 0) + (if b2 then 1 else 0) + (if b3 then 1 else 0) + (if b4 then 1 else 0) + (if b5 then 1 else 0) + (if b6 then 1 else 0) = pc (dmB b1 b2 b3 b4 b5 b6) := by decide
theorem sb_all : ∀ b1 b2 b3 b4 b5 b6 : Bool, 0 ||| (if b1 then 2 ^ 1 else 0) ||| (if b2 then 2 ^ 2 else 0) ||| (if b3 then 2 ^ 3 else 0) ||| (if b4 then 2 ^ 4 else 0) ||| (if b5 then 2 ^ 5 else 0) ||| (if b6 then 2 ^ 6 else 0) = dmB b1 b2 b3 b4 b5 b6 := by decide
theorem cbF_6 (f : Nat → Bool) : cbF f 6 1 0 = pc (dmB (f 1) (f 2) (f 3) (f 4) (f 5) (f 6)) := cb_all _ _ _ _ _ _
theorem sbF_6 (f : Nat → Bool) : sbF f 6 1 0 = dmB (f 1) (f 2) (f 3) (f 4) (f 5) (f 6) := sb_all _ _ _ _ _ _
def dkB (A : Row) (b l : Nat) : Bool := decide (0 < dk A b l)
theorem dkB_at {A : Row} {b l : Nat} (h1 : 1 ≤ l) (h6 : l ≤ 6) : dkB A b l = decide (0 < A (21 + 7 * b + l)) := by unfold dkB dk; rw [if_pos ⟨h1, h6⟩]
theorem cb_dm (A : Row) (b : Nat) : cbF (dkB A b) 6 1 0 = pc (dm A b) := by
  rw [cbF_6, dkB_at (by omega) (by omega), dkB_at (by omega) (by omega), dkB_at (by omega) (by omega), dkB_at (by omega) (by omega), dkB_at (by omega) (by omega), dkB_at (by omega) (by omega)]; rfl
theorem sb_dm (A : Row) (b : Nat) : sbF (dkB A b) 6 1 0 = dm A b := by
  rw [sbF_6, dkB_at (by omega) (by omega), dkB_at (by omega) (by omega), dkB_at (by omega) (by omega), dkB_at (by omega) (by omega), dkB_at (by omega) (by omega), dkB_at (by omega) (by omega)]; rfl
theorem and_clear : ∀ t, t < 128 → ∀ l, l < 7 → t.testBit l = true → nI t &&& (nI (2 ^ l) ^^^ (-1 : Int32)) = nI (t ^^^ 2 ^ l) := by decide +kernel
section RD
variable {N : Nat} {Z : mZ} {A : Row} {c : Nat}
theorem m_decks4 (hM : ModAt Z) (w : WF A c) {M : mM} (hR : RowAt M 117 A) {b : Nat} (hb : b < 10) : ∀ (j l fu acc : Nat), l + j = 7 → 1 ≤ l → j < fu → fX9_decks_4 N Z fu 116 (nI b) (nI acc) (nI l) M = some (nI (cbF (dkB A b) j l acc), M) := by
  intro j
  induction j with
  | zero =>
    intro l fu acc h1 h2 h3
    obtain ⟨fu, rfl⟩ : ∃ q, fu = q + 1 := ⟨fu - 1, by omega⟩
    rw [fX9_decks_4, if_pos (by rw [i_6, i_lt (by omega) (by omega)]; omega)]; rfl
  | succ j ih =>
    intro l fu acc h1 h2 h3
    obtain ⟨fu, rfl⟩ : ∃ q, fu = q + 1 := ⟨fu - 1, by omega⟩
    have hd := dk_le (l := l) w hb
    have i0 : nI acc + 0 = nI (acc + 0) := nI_add acc 0
    rw [fX9_decks_4, if_neg (by rw [i_6, i_lt (by omega) (by omega)]; omega), ck_t hM.1, m_deckAt hM hR hb (by omega), bnd2_some, nI_1, nI_1, i0, ih (l + 1) fu (acc + 0) (by omega) (by omega) (by omega), ih (l + 1) fu (acc + 1) (by omega) (by omega) (by omega)]
    by_cases q : 0 < dk A b l
    · rw [if_neg (by rw [i_0, i_le (by omega) (by omega)]; omega)]
      rw [cbF, show dkB A b l = true from decide_eq_true q, if_pos rfl]
    · rw [if_pos (by rw [i_0, i_le (by omega) (by omega)]; omega)]
      rw [cbF, show dkB A b l = false from decide_eq_false q, if_neg (by decide)]
theorem m_decks (hN : 5000 ≤ N) (hM : ModAt Z) (w : WF A c) {M : mM} (hR : RowAt M 117 A) {b : Nat} (hb : b < 10) : fX9_decks N Z 116 (nI b) M = some (nI (pc (dm A b)), M) := by
  have h := m_decks4 (N := N) hM w hR hb 6 1 N 0 (by omega) (by omega) (by omega)
  rw [cb_dm] at h
  exact h
theorem m_pieces13 (hN : 5000 ≤ N) (hM : ModAt Z) (w : WF A c) {M : mM} (hR : RowAt M 117 A) {k : Nat} (hk : 1 ≤ k) (hk5 : k ≤ 5) : ∀ (j i fu : Nat), i + j = A 0 → j < fu → fX9_pieces_13 N Z fu 116 (nI k) (nI (sm (fun p => if k = 0 then aPH A p else if k = 1 then 2 * A (11 + p) else pc (mkS A k p)) i)) (nI i) M = some (nI (aPieces A k), M) := by
  have h1 := w.1
  have gm := hM
  obtain ⟨o1, ⟨o2, -⟩, ⟨g4, g5, g6⟩, -⟩ := hM
  intro j
  induction j with
  | zero =>
    intro i fu h2 h3
    obtain ⟨fu, rfl⟩ : ∃ q, fu = q + 1 := ⟨fu - 1, by omega⟩
    rw [fX9_pieces_13, ck_t o1, o2, bnd1_some, ck_t g5, g6, ck_t (by decide), cl_0, hR 0 (by omega), if_pos (by rw [i_le (by omega) (by omega)]; omega), show i = A 0 by omega]
    rfl
  | succ j ih =>
    intro i fu h2 h3
    obtain ⟨fu, rfl⟩ : ∃ q, fu = q + 1 := ⟨fu - 1, by omega⟩
    have hi := ih (i + 1) fu (by omega) (by omega)
    rw [sm_succ _ i] at hi
    rw [fX9_pieces_13, ck_t o1, o2, bnd1_some, ck_t g5, g6, ck_t (by decide), cl_0, hR 0 (by omega), if_neg (by rw [i_le (by omega) (by omega)]; omega)]
    rw [if_neg (show ¬ k = 0 by omega)] at hi
    by_cases k1 : k = 1
    · subst k1
      rw [if_pos (show nI 1 = (1 : Int32) from rfl), m_high gm hR (by omega), bnd2_some, i_2, pk_mul, nI_add, nI_1]
      exact hi
    · rw [if_neg k1] at hi
      rw [if_neg (by rw [i_1, i_eq (by omega) (by omega)]; exact k1)]
      by_cases k2 : k = 2
      · subst k2
        rw [if_pos (show nI 2 = (2 : Int32) from rfl), m_decks hN gm w hR (by omega), bnd2_some, nI_add, nI_1]
        exact hi
      · have hr : rwB k ≤ 111 := by unfold rwB; split <;> (try split) <;> omega
        have hm := mkS_lt w (k := k) (p := i) (by omega) (by omega)
        rw [mkS_row (by omega)] at hi hm
        rw [if_neg (by rw [i_2, i_eq (by omega) (by omega)]; exact k2), m_rowOf (by omega) hk5, bnd2_some, nI_add, ck_t (by rw [i_inB (by omega)]; exact decide_eq_true (by omega)), i_cl (by omega), hR _ (by omega), m_bits hN (by omega), bnd2_some, nI_add, nI_1]
        exact hi
theorem m_pieces (hN : 5000 ≤ N) (hM : ModAt Z) (w : WF A c) {M : mM} (hR : RowAt M 117 A) {k : Nat} (hk5 : k ≤ 5) : fX9_pieces N Z 116 (nI k) M = some (nI (aPieces A k), M) := by
  have h1 := w.1
  unfold fX9_pieces
  by_cases k0 : k = 0
  · subst k0
    rw [if_pos (show nI 0 = 0 from rfl), ck_t hM.1, m_posts hN hM hR w, bnd2_some]
    rfl
  · rw [if_neg (by rw [i_0, i_eq (by omega) (by omega)]; exact k0)]
    exact m_pieces13 hN hM w hR (by omega) hk5 (A 0) 0 N (by omega) (by omega)
theorem m_deckSet5 (hM : ModAt Z) (w : WF A c) {M : mM} (hR : RowAt M 117 A) (rr : Bool) (hF : rr = true → FarR M A) {b : Nat} (hb : b < 10) : ∀ (j l fu acc : Nat), l + j = 7 → 1 ≤ l → j < fu → fX9_deckSet_5 N Z fu 116 (nI b) (if rr then 1 else 0) (nI acc) (nI l) M = some (nI (sbF (fun l => dkB A b l && (!rr || rch A b l)) j l acc), M) := by
  intro j
  induction j with
  | zero =>
    intro l fu acc h1 h2 h3
    obtain ⟨fu, rfl⟩ : ∃ q, fu = q + 1 := ⟨fu - 1, by omega⟩
    rw [fX9_deckSet_5, if_pos (by rw [i_6, i_lt (by omega) (by omega)]; omega)]; rfl
  | succ j ih =>
    intro l fu acc h1 h2 h3
    obtain ⟨fu, rfl⟩ : ∃ q, fu = q + 1 := ⟨fu - 1, by omega⟩
    have hd := dk_le (l := l) w hb
    have i0 : nI acc ||| (0 : Int32) = nI (acc ||| 0) := nI_or acc 0
    rw [fX9_deckSet_5, if_neg (by rw [i_6, i_lt (by omega) (by omega)]; omega), ck_t hM.1, m_deckAt hM hR hb (by omega), bnd2_some, bit_shl (by omega), nI_or, i0, nI_1, sbF]
    have e0 := ih (l + 1) fu (acc ||| 0) (by omega) (by omega) (by omega)
    have e1 := ih (l + 1) fu (acc ||| 2 ^ l) (by omega) (by omega) (by omega)
    by_cases q : 0 < dk A b l
    · rw [if_neg (by rw [i_0, i_le (by omega) (by omega)]; omega), show dkB A b l = true from decide_eq_true q, Bool.true_and]
      cases rr with
      | false =>
        simp only [Bool.not_false, Bool.true_or, ↓reduceIte, Bool.false_eq_true] at e1 ⊢
        exact e1
      | true =>
        rw [if_neg (show ¬ ((if true = true then (1 : Int32) else 0) = 0) by decide), m_reached hM (hF rfl) hb (by omega), bnd2_some, ite_b, Bool.not_true, Bool.false_or]
        cases rch A b l with
        | true => simp only [Bool.not_true, Bool.false_or, ↓reduceIte, Bool.false_eq_true] at e1 ⊢; exact e1
        | false => simp only [Bool.not_true, Bool.false_or, ↓reduceIte, Bool.false_eq_true] at e0 ⊢; exact e0
    · rw [if_pos (by rw [i_0, i_le (by omega) (by omega)]; omega), show dkB A b l = false from decide_eq_false q, Bool.false_and]
      simp only [↓reduceIte, Bool.false_eq_true] at e0 ⊢
      exact e0
theorem m_deckSet0 (hN : 5000 ≤ N) (hM : ModAt Z) (w : WF A c) {M : mM} (hR : RowAt M 117 A) {b : Nat} (hb : b < 10) : fX9_deckSet N Z 116 (nI b) (0 : Int32) M = some (nI (dm A b), M) := by
  have h := m_deckSet5 (N := N) hM w hR false (fun q => Bool.noConfusion q) hb 6 1 N 0 (by omega) (by omega) (by omega)
  have e : (fun l => dkB A b l && (!false || rch A b l)) = dkB A b := by funext l; rw [Bool.not_false, Bool.true_or, Bool.and_true]
  rw [e, sb_dm] at h
  exact h
theorem rch_dk (w : WF A c) (hD : isD A (aD A)) {b l : Nat} (hb : b < 10) (h : rch A b l = true) : 0 < dk A b l := by
  unfold rch at h
  rw [Bool.and_eq_true, Bool.and_eq_true, decide_eq_true_iff, decide_eq_true_iff, decide_eq_true_iff] at h
  exact (dk_dck w hb).2 (hD.1 b l hb (by omega) h.2)
theorem m_deckSet1 (hN : 5000 ≤ N) (hM : ModAt Z) (w : WF A c) {M : mM} (hR : RowAt M 117 A) (hF : FarR M A) (hD : isD A (aD A)) {b : Nat} (hb : b < 10) : fX9_deckSet N Z 116 (nI b) (1 : Int32) M = some (nI (rB A b), M) := by
  have h := m_deckSet5 (N := N) hM w hR true (fun _ => hF) hb 6 1 N 0 (by omega) (by omega) (by omega)
  have e : (fun l => dkB A b l && (!true || rch A b l)) = rch A b := by
    funext l
    rw [Bool.not_true, Bool.false_or]
    cases q : rch A b l with
    | false => rw [Bool.and_false]
    | true => rw [show dkB A b l = true from decide_eq_true (rch_dk w hD hb q)]; rfl
  rw [e, sbF_6] at h
  exact h
theorem m_braced4 (hM : ModAt Z) (w : WF A c) {M : mM} (hR : RowAt M 117 A) {b : Nat} (hb : b < A 0) : ∀ (j l fu acc : Nat), l + j = A (11 + b) + 1 → 1 ≤ l → j < fu → fX9_bracedSet_4 N Z fu 116 (nI b) (nI acc) (nI l) M = some (nI (bsF (A (11 + b)) (aBr A b) j l acc), M) := by
  have h1 := w.1
  have hh := w.2.2.2.2.1 b (by omega)
  have e1 := m_high (N := N) hM hR (p := b) (by omega)
  intro j
  induction j with
  | zero =>
    intro l fu acc h2 h3 h4
    obtain ⟨fu, rfl⟩ : ∃ q, fu = q + 1 := ⟨fu - 1, by omega⟩
    rw [fX9_bracedSet_4, ck_t hM.1, e1, bnd2_some, if_pos (by rw [i_lt (by omega) (by omega)]; omega)]; rfl
  | succ j ih =>
    intro l fu acc h2 h3 h4
    obtain ⟨fu, rfl⟩ : ∃ q, fu = q + 1 := ⟨fu - 1, by omega⟩
    have i0 : nI acc ||| (0 : Int32) = nI acc := by have := nI_or acc 0; rw [Nat.or_zero] at this; exact this
    have eb := m_isBraced (N := N) hM hR w hb h3 (show l ≤ 6 by omega)
    rw [fX9_bracedSet_4, ck_t hM.1, e1, bnd2_some, if_neg (by rw [i_lt (by omega) (by omega)]; omega), e1, bnd2_some, bit_shl (by omega), nI_or, i0, nI_1, bsF]
    by_cases q : l = A (11 + b)
    · rw [if_pos (by rw [q]), if_pos (Or.inl q)]
      exact ih (l + 1) fu _ (by omega) (by omega) (by omega)
    · rw [if_neg (by rw [i_eq (by omega) (by omega)]; exact q), eb, bnd2_some, ite_b]
      cases hq : (aBr A b).testBit l with
      | true => rw [if_pos rfl, if_pos (Or.inr rfl)]; exact ih (l + 1) fu _ (by omega) (by omega) (by omega)
      | false => rw [if_neg (by decide), if_neg (fun e => e.elim q (fun e => by cases e))]; exact ih (l + 1) fu _ (by omega) (by omega) (by omega)
theorem m_bracedSet (hN : 5000 ≤ N) (hM : ModAt Z) (w : WF A c) {M : mM} (hR : RowAt M 117 A) {b : Nat} (hb : b < A 0) : fX9_bracedSet N Z 116 (nI b) M = some (nI (aBs A b), M) := by
  have h1 := w.1
  have hh := w.2.2.2.2.1 b (by omega)
  exact m_braced4 hM w hR hb (A (11 + b)) 1 N 0 (by omega) (by omega) (by omega)
theorem m_ties5 (hN : 5000 ≤ N) (hM : ModAt Z) (w : WF A c) {M : mM} (hR : RowAt M 117 A) {p : Nat} (hp : p < A 0) (wo : Bool) : ∀ (j l fu acc : Nat), l + j = aPH A p + 1 → 1 ≤ l → j < fu →
    fX9_tiesBy_5 N Z fu 116 (nI p) (if wo then 1 else 0) (nI acc) (nI l) M = some (nI (if wo then neF (A (111 + p)) (A 1) (A 2) (aPH A p) j l acc else moF (A (111 + p)) (A 1) (A 2) (aPH A p) j l acc), M) := by
  have h1 := w.1
  have hh := aPH_le w hp
  have hs := w.2.1
  have ho := w.2.2.1
  have ht := w.2.2.2.2.2.2.2.2.2.2.1 p (by omega)
  have e1 := m_postHigh (N := N) hM hR w hp
  have hb : ∀ i, aPH A p < i → (A (111 + p)).testBit i = false := fun i hi => by
    cases q : (A (111 + p)).testBit i with
    | false => rfl
    | true => have := (ht.2 i q).2.1; omega
  have gm := hM
  obtain ⟨o1, ⟨o2, -⟩, ⟨g4, g5, g6⟩, -⟩ := hM
  intro j
  induction j with
  | zero =>
    intro l fu acc h2 h3 h4
    obtain ⟨fu, rfl⟩ : ∃ q, fu = q + 1 := ⟨fu - 1, by omega⟩
    rw [fX9_tiesBy_5, ck_t o1, e1, bnd2_some, if_pos (by rw [i_lt (by omega) (by omega)]; omega)]
    cases wo <;> rfl
  | succ j ih =>
    intro l fu acc h2 h3 h4
    obtain ⟨fu, rfl⟩ : ∃ q, fu = q + 1 := ⟨fu - 1, by omega⟩
    have hq : aHas A 4 p l = (A (111 + p)).testBit l := by
      unfold aHas; rw [mkS_row (by omega), show rwB 4 = 111 from rfl]; simp [h3, show l ≤ 6 by omega]
    have hp2 : 2 ^ l ≤ 2 ^ 6 := Nat.pow_le_pow_right (by decide) (by omega)
    have i0 := ih (l + 1) fu acc (by omega) (by omega) (by omega)
    have i1 := ih (l + 1) fu (acc ||| 2 ^ l) (by omega) (by omega) (by omega)
    have ib : inB (nI (111 + p)) 121 = true := by rw [i_inB (by omega)]; exact decide_eq_true (by omega)
    have q111 : (111 : Int32) + nI p = nI (111 + p) := by rw [i_111, nI_add]
    rw [fX9_tiesBy_5, ck_t o1, e1, bnd2_some, if_neg (by rw [i_lt (by omega) (by omega)]; omega), m_has111 gm hR w (by omega) (by omega), bnd2_some, hq]
    cases wo with
    | false =>
      simp only [↓reduceIte, Bool.false_eq_true] at i0 i1 ⊢
      rw [ite_b, moF]
      cases hbt : (A (111 + p)).testBit l with
      | true => rw [if_pos rfl, if_neg (show ¬ (true = false ∧ held (A (111 + p) ||| 2 ^ l) (A 1) (A 2) (aPH A p + 1) = true) from fun e => Bool.noConfusion e.1), nI_1]; exact i0
      | false =>
        have hx : A (111 + p) ||| 2 ^ l < 128 := Nat.or_lt_two_pow (n := 7) ht.1 (by omega)
        have hb2 : ∀ i, aPH A p + 1 < i → (A (111 + p) ||| 2 ^ l).testBit i = false := fun i hi => by
          rw [Nat.testBit_or, hb i (by omega), Nat.testBit_two_pow]
          rw [decide_eq_false (by omega)]; rfl
        have e2 := m_isHeldBy (N := N) (Z := Z) (M := M) (ties := A (111 + p) ||| 2 ^ l) (span := A 1) (over := A 2) (h := aPH A p + 1) hN (by omega) (by omega) (by omega) (by omega) hb2
        rw [if_neg (by decide), e1, bnd2_some, o2, bnd1_some, ck_t g5, g6, q111, ck_t ib, ck_t (by decide), ck_t (by decide), i_cl (by omega), cl_1, cl_2, hR _ (by omega), hR 1 (by omega), hR 2 (by omega), bit_shl (by omega), nI_or, nI_1, e2, bnd2_some, ite_b, nI_or, nI_1]
        cases hh2 : held (A (111 + p) ||| 2 ^ l) (A 1) (A 2) (aPH A p + 1) with
        | true => rw [if_pos rfl, if_pos ⟨rfl, rfl⟩]; exact i1
        | false => rw [if_neg (by decide), if_neg (fun e => Bool.noConfusion e.2)]; exact i0
    | true =>
      rw [if_neg (show ¬ (if true = true then (1 : Int32) else 0) = 0 by decide)]
      simp only [↓reduceIte] at i0 i1 ⊢
      rw [ite_b, neF]
      cases hbt : (A (111 + p)).testBit l with
      | false => rw [if_neg (by decide), if_neg (show ¬ (false = true ∧ held (A (111 + p) ^^^ 2 ^ l) (A 1) (A 2) (aPH A p) = false) from fun e => Bool.noConfusion e.1), nI_1]; exact i0
      | true =>
        have hx : A (111 + p) ^^^ 2 ^ l < 128 := Nat.xor_lt_two_pow (n := 7) ht.1 (by omega)
        have hb2 : ∀ i, aPH A p < i → (A (111 + p) ^^^ 2 ^ l).testBit i = false := fun i hi => by
          rw [testBit_x, hb i hi, decide_eq_false (by omega)]; rfl
        have e2 := m_isHeldBy (N := N) (Z := Z) (M := M) (ties := A (111 + p) ^^^ 2 ^ l) (span := A 1) (over := A 2) (h := aPH A p) hN (by omega) (by omega) (by omega) (by omega) hb2
        rw [if_pos rfl, e1, bnd2_some, o2, bnd1_some, ck_t g5, g6, q111, ck_t ib, ck_t (by decide), ck_t (by decide), i_cl (by omega), cl_1, cl_2, hR _ (by omega), hR 1 (by omega), hR 2 (by omega), bit_shl (by omega), and_clear _ ht.1 _ (by omega) hbt, e2, bnd2_some, ite_b, nI_or, nI_1]
        cases hh2 : held (A (111 + p) ^^^ 2 ^ l) (A 1) (A 2) (aPH A p) with
        | true => rw [if_pos rfl, if_neg (fun e => Bool.noConfusion e.2)]; exact i0
        | false => rw [if_neg (by decide), if_pos ⟨rfl, rfl⟩]; exact i1
theorem m_tiesBy1 (hN : 5000 ≤ N) (hM : ModAt Z) (w : WF A c) {M : mM} (hR : RowAt M 117 A) {p : Nat} (hp : p < A 0) : fX9_tiesBy N Z 116 (nI p) (1 : Int32) M = some (nI (neF (A (111 + p)) (A 1) (A 2) (aPH A p) (aPH A p) 1 0), M) := by
  have hh := aPH_le w hp
  exact m_ties5 hN hM w hR hp true (aPH A p) 1 N 0 (by omega) (by omega) (by omega)
theorem m_tiesBy0 (hN : 5000 ≤ N) (hM : ModAt Z) (w : WF A c) {M : mM} (hR : RowAt M 117 A) {p : Nat} (hp : p < A 0) : fX9_tiesBy N Z 116 (nI p) (0 : Int32) M = some (nI (moF (A (111 + p)) (A 1) (A 2) (aPH A p) (aPH A p) 1 0), M) := by
  have hh := aPH_le w hp
  exact m_ties5 hN hM w hR hp false (aPH A p) 1 N 0 (by omega) (by omega) (by omega)
/-- the sums of classes agree -/
theorem sm7 (f : Nat → Nat) : ∀ n, sm f (7 * n) = sm (fun b => f (7 * b) + f (7 * b + 1) + f (7 * b + 2) + f (7 * b + 3) + f (7 * b + 4) + f (7 * b + 5) + f (7 * b + 6)) n
  | 0 => rfl
  | n + 1 => by
    rw [show 7 * (n + 1) = 7 * n + 1 + 1 + 1 + 1 + 1 + 1 + 1 by omega, sm_succ, sm_succ, sm_succ, sm_succ, sm_succ, sm_succ, sm_succ, sm_succ, sm7 f n]
    simp only [Nat.add_assoc]
theorem sm_cls (w : WF A c) : sm (fun q => A (21 + q)) 70 = sm (cls A) (A 0) := by
  have h1 := w.1
  have w8 := w.2.2.2.2.2.2.2.1
  have e : ∀ n, n ≤ 10 → sm (fun q => A (21 + q)) (7 * n) = sm (cls A) n := fun n hn => by
    rw [sm7]
    refine sm_congr (fun b hb => ?_)
    have z := w8 b 0 (by omega) (by omega) (Or.inl rfl)
    unfold cls
    simp only [sm]
    simp only [Nat.add_zero, Nat.zero_add, Nat.reduceAdd] at z ⊢
    rw [z]
    simp only [show 21 + (7 * b + 1) = 21 + 7 * b + 1 by omega, show 21 + (7 * b + 2) = 21 + 7 * b + 2 by omega, show 21 + (7 * b + 3) = 21 + 7 * b + 3 by omega, show 21 + (7 * b + 4) = 21 + 7 * b + 4 by omega, show 21 + (7 * b + 5) = 21 + 7 * b + 5 by omega, show 21 + (7 * b + 6) = 21 + 7 * b + 6 by omega]
    omega
  have more : ∀ m, A 0 + m ≤ 10 → sm (cls A) (A 0 + m) = sm (cls A) (A 0) := fun m => by
    induction m with
    | zero => intro _; rfl
    | succ m ih =>
      intro hm
      rw [show A 0 + (m + 1) = A 0 + m + 1 by omega, sm_succ, ih (by omega)]
      have hz : cls A (A 0 + m) = 0 := by
        have := sm_le (f := fun l => A (21 + 7 * (A 0 + m) + (l + 1))) (k := 0) (n := 6) (fun i hi => by
          have hh := w.2.2.2.2.2.1 (A 0 + m) (by omega) (by omega)
          have := w8 (A 0 + m) (i + 1) (by omega) (by omega) (Or.inr (by omega))
          omega)
        unfold cls; omega
      omega
  have h2 := e 10 (by omega)
  have h3 := more (10 - A 0) (by omega)
  rw [show A 0 + (10 - A 0) = 10 by omega] at h3
  rw [← h3, ← h2]
end RD
