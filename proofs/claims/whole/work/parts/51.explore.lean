/-! ===== LAYER 3: the class's explore ===== -/
section WX
variable {N : Nat} {Z : mZ} {a P : Nat} {A : Row} {c : Nat}
theorem fF0_dck (w : WF A c) {b l : Nat} (hb : b < 10) (h : (fF0 A b).testBit l = true) : dck A b l := by
  obtain ⟨rfl, -, hd⟩ := (fF0_bit w hb).1 h; exact hd
theorem nxF_dck (w : WF A c) {F R : Nat → Nat} (hF : ∀ b l, b < 10 → (F b).testBit l = true → dck A b l) {b l : Nat} (hb : b < 10) (h : (nxF A F R b).testBit l = true) : dck A b l := by
  by_cases q : b < A 0
  · exact ((nxF_bit w q hF).1 h).1
  · unfold nxF at h; rw [if_neg q] at h; exact fF0_dck w hb h
theorem waysR_of (w : WF A c) {R S : Nat → Nat} {M : mM} (h : isD A (dOf R S)) (hd : ∀ b l, b < 10 → (R b).testBit l = true → dck A b l ∧ 1 ≤ S (7 * b + l)) (h1 : ∀ b, b < 10 → M.1 (a + 1) b = nI (R b)) (h2 : ∀ b l, b < 10 → l < 7 → (R b).testBit l = true → M.1 (a + 2) (7 * b + l) = nI (S (7 * b + l))) : WaysR M a A := by
  have hr := fun b hb => rB_of w h hd b hb
  refine ⟨fun b hb => by rw [h1 b hb, hr b hb], fun b l hb hl hq => ?_⟩
  have q : (R b).testBit l = true := by rw [hr b hb, rB_bit]; exact hq
  rw [h2 b l hb hl q, ← aD_eq w h b l hb hl, dOf_at hl, if_pos q]
def Head (A : Row) (s : Nat) (R G S : Nat → Nat) : Prop := (s = 1 ∧ R = (fun _ => 0) ∧ G = fF0 A) ∨ ∃ F, 2 ≤ s ∧ InvE A (s - 1) R F S ∧ G = nxF A F R
theorem w_main (hW : WaysAt Z a) (hP : PlanAt Z P) (hd : a + 5 ≤ P ∨ P + 6 ≤ a) (w : WF A c) (hN : 5000 ≤ N) : ∀ (j s fu : Nat) (M : mM) (R G S : Nat → Nat), s + j = 61 → 1 ≤ s → j < fu → RelP M P A → Head A s R G S →
    (∀ b, b < 10 → M.1 (a + 1) b = nI (R b)) → (∀ b, b < 10 → M.1 (a + 4) b = nI (G b)) → (∀ b l, b < 10 → l < 7 → (R b).testBit l = true → M.1 (a + 2) (7 * b + l) = nI (S (7 * b + l))) →
    ∃ M', fX6_explore_48 N Z fu a P (nI s) M = some ((), M') ∧ Same (inW a) M M' ∧ WaysR M' a A ∧ isD A (aD A) := by
  have h1 := w.1
  intro j
  induction j with
  | zero =>
    intro s fu M R G S h2 h3 h4 hR hH m1 m4 m2
    obtain ⟨fu, rfl⟩ : ∃ q, fu = q + 1 := ⟨fu - 1, by omega⟩
    have hs : s = 61 := by omega
    subst hs
    rcases hH with ⟨q, -⟩ | ⟨F, -, hI, -⟩
    · omega
    · have hD := isD_full w hI
      refine ⟨M, ?_, Same.rfl, waysR_of w hD (fun b l hb hl => ⟨(hI.1 b l hb hl).1, (hI.1 b l hb hl).2.1⟩) m1 m2, aD_is hD⟩
      rw [fX6_explore_48, if_pos (by rw [i_60, i_lt (by omega) (by omega)]; omega)]
  | succ j ih =>
    intro s fu M R G S h2 h3 h4 hR hH m1 m4 m2
    obtain ⟨fu, rfl⟩ : ∃ q, fu = q + 1 := ⟨fu - 1, by omega⟩
    have hGd : ∀ b l, b < 10 → (G b).testBit l = true → dck A b l := by
      rcases hH with ⟨-, -, rfl⟩ | ⟨F, -, hI, rfl⟩
      · intro b l hb h; exact fF0_dck w hb h
      · intro b l hb h; exact nxF_dck w (fun b l hb hl => (hI.1 b l hb ((hI.2.1 b l hb).1 hl).1).1) hb h
    have hRd : ∀ b l, b < 10 → (R b).testBit l = true → dck A b l := by
      rcases hH with ⟨-, rfl, -⟩ | ⟨F, -, hI, -⟩
      · intro b l hb h; simp at h
      · intro b l hb h; exact (hI.1 b l hb h).1
    have hGo : ∀ b, A 0 ≤ b → G b = fF0 A b := by
      rcases hH with ⟨-, -, rfl⟩ | ⟨F, -, -, rfl⟩
      · intro b _; rfl
      · intro b hb; unfold nxF; rw [if_neg (by omega)]
    have g128 := fun b (hb : b < 10) => lt128_of (x := G b) w (fun l hl => hGd b l hb hl)
    have r128 := fun b (hb : b < 10) => lt128_of (x := R b) w (fun l hl => hRd b l hb hl)
    obtain ⟨M1, y, e1, e2, e3, e4, e5, -, e7, -, e9⟩ := w_step4 (N := N) hW hN (G := G) (R := R) (s := s) (by omega) g128 10 0 N M false (by omega) (by omega) m4 (fun b _ hb => m1 b hb) ⟨fun q => Bool.noConfusion q, fun h => by obtain ⟨b, q, _⟩ := h; omega⟩
    have hR1 : RelP M1 P A := hR.same e2 (fun x hx1 hx2 hx3 => by have := hx3.1; have := hx3.2; omega)
    rw [fX6_explore_48, if_neg (by rw [i_60, i_lt (by omega) (by omega)]; omega), ck_t hW.1]
    have e1' : fX6_isStepTaken N Z a (nI s) M = some (if y then 1 else 0, M1) := e1
    rw [e1', bnd2_some, ite_b]
    cases y with
    | false =>
      have hz : ∀ b, b < 10 → G b = 0 := fun b hb => by
        rcases Nat.eq_zero_or_pos (G b) with q | q
        · exact q
        · have := e3.2 ⟨b, hb, by omega⟩; cases this
      rw [if_neg (by decide)]
      have m1' : ∀ b, b < 10 → M1.1 (a + 1) b = nI (R b) := fun b hb => by rw [e5 b (by omega) hb, hz b hb, Nat.or_zero]
      have m2' : ∀ b l, b < 10 → l < 7 → (R b).testBit l = true → M1.1 (a + 2) (7 * b + l) = nI (S (7 * b + l)) := fun b l hb hl hq => by
        rw [e9 b l hb hl, hz b hb, if_neg (by simp)]; exact m2 b l hb hl hq
      rcases hH with ⟨-, rfl, rfl⟩ | ⟨F, -, hI, rfl⟩
      · have hD := isD_none (S := S) w hz
        exact ⟨M1, rfl, e2, waysR_of w hD (fun b l hb hl => by simp at hl) m1' m2', aD_is hD⟩
      · have hD := isD_stop w hI hz
        exact ⟨M1, rfl, e2, waysR_of w hD (fun b l hb hl => ⟨(hI.1 b l hb hl).1, (hI.1 b l hb hl).2.1⟩) m1' m2', aD_is hD⟩
    | true =>
      have hnz := e3.1 rfl
      rw [if_pos rfl]
      have hI' : InvE A s (fun b => R b ||| G b) G (sUp G S s) := by
        rcases hH with ⟨rfl, rfl, rfl⟩ | ⟨F, q, hI, rfl⟩
        · exact invE_one w hnz
        · have := invE_step w hI (by omega) hnz
          rw [show s - 1 + 1 = s by omega] at this
          exact this
      obtain ⟨M2, f1, f2, f3, f4⟩ := w_follow (N := N) hW hP hd w (F := G) (R := fun b => R b ||| G b) (fun b hb => ⟨(g128 b hb).1, or_lt128 _ (r128 b hb).1 _ (g128 b hb).1⟩) (fun w0 w1 w2 M9 => fX6_explore_48 N Z fu w0 w1 w2 M9) s (A 0) 0 N M1 (by omega) (by omega) hR1 (fun b hb => e7 b (by omega) hb) (fun b hb => e5 b (by omega) hb)
      have n2 : ∀ r b, r ≠ a + 4 → M2.1 r b = M1.1 r b := fun r b hr => f2.1 r hr b
      have s2 : Same (inW a) M1 M2 := f2.mono (fun x hx => ⟨by omega, by omega⟩)
      obtain ⟨M', c1, c2, c3, c4⟩ := ih (s + 1) fu M2 (fun b => R b ||| G b) (nxF A G (fun b => R b ||| G b)) (sUp G S s) (by omega) (by omega) (by omega) (hR1.same s2 (fun x hx1 hx2 hx3 => by have := hx3.1; have := hx3.2; omega)) (Or.inr ⟨G, by omega, by rw [show s + 1 - 1 = s by omega]; exact hI', rfl⟩)
        (fun b hb => by rw [n2 _ _ (by omega)]; exact e5 b (by omega) hb)
        (fun b hb => by
          by_cases q : b < A 0
          · exact f3 b (by omega) q
          · rw [f4 b (Or.inr (by omega)), e4 b hb, hGo b (by omega)]; unfold nxF; rw [if_neg q])
        (fun b l hb hl hq => by
          rw [n2 _ _ (by omega), e9 b l hb hl, sUp_at hl]
          by_cases q : (G b).testBit l = true
          · rw [if_pos ⟨by omega, q⟩, if_pos q]
          · rw [if_neg (fun x => q x.2), if_neg q]
            refine m2 b l hb hl ?_
            rw [Nat.testBit_or, Bool.or_eq_true] at hq
            rcases hq with x | x
            · exact x
            · exact absurd x q)
      exact ⟨M', f1.trans c1, (e2.trans s2).trans c2, c3, c4⟩
/-- the class explores a plan -/
theorem w_explore (hW : WaysAt Z a) (hP : PlanAt Z P) (hd : a + 5 ≤ P ∨ P + 6 ≤ a) (w : WF A c) (hN : 5000 ≤ N) {M : mM} (hR : RelP M P A) : ∃ M', fX6_explore N Z a P M = some ((), M') ∧ Same (inW a) M M' ∧ WaysR M' a A ∧ isD A (aD A) := by
  obtain ⟨M1, e1, e2, e3, -⟩ := w_init (N := N) hW hP hd w 10 0 N M (by omega) (by omega) hR
  have hR1 : RelP M1 P A := hR.same e2 (fun x hx1 hx2 hx3 => by have := hx3.1; have := hx3.2; omega)
  obtain ⟨M', c1, c2, c3, c4⟩ := w_main (N := N) hW hP hd w hN 60 1 N M1 (fun _ => 0) (fF0 A) (fun _ => 0) (by omega) (by omega) (by omega) hR1 (Or.inl ⟨rfl, rfl, rfl⟩) (fun b hb => (e3 b (by omega) hb).2) (fun b hb => (e3 b (by omega) hb).1) (fun b l hb hl hq => by simp at hq)
  exact ⟨M', e1.trans c1, e2.trans c2, c3, c4⟩
theorem w_reached (hW : WaysAt Z a) {M : mM} (hR : WaysR M a A) {b l : Nat} (hb : b < 10) (hl : l < 2147483648) : fX6_isReached N Z a (nI b) (nI l) M = some (if rch A b l then 1 else 0, M) := by
  have h0 := rB_lt A b
  obtain ⟨o1, r0, -, -, -, ⟨p4, p5, p6⟩, -⟩ := hW
  unfold fX6_isReached
  by_cases h1 : l < 1
  · rw [if_pos (by rw [i_1, i_lt (by omega) (by omega)]; omega)]
    simp [rch, show ¬ 1 ≤ l by omega]
  rw [if_neg (by rw [i_1, i_lt (by omega) (by omega)]; omega)]
  by_cases h6 : 6 < l
  · rw [if_pos (by rw [i_6, i_lt (by omega) (by omega)]; omega)]
    simp [rch, show ¬ l ≤ 6 by omega]
  rw [if_neg (by rw [i_6, i_lt (by omega) (by omega)]; omega), ck_t o1, r0, bnd1_some, k_at p5 (by omega) (by omega), bnd2_some, hR.1 b hb]
  cases hq : rch A b l with
  | false => rw [if_pos (by rw [bit_test (by omega) (by omega), rB_bit]; exact hq)]; rfl
  | true => rw [if_neg (by rw [bit_test (by omega) (by omega), rB_bit, hq]; decide)]; rfl
theorem w_count4 (hW : WaysAt Z a) {M : mM} (hR : WaysR M a A) : ∀ (j i fu : Nat), i + j = 10 → j < fu → fX6_countReached_4 N Z fu a (nI (sm (fun b => pc (rB A b)) i)) (nI i) M = some (nI (sm (fun b => pc (rB A b)) 10), M) := by
  obtain ⟨o1, r0, -, -, -, ⟨p4, p5, p6⟩, -⟩ := hW
  intro j
  induction j with
  | zero =>
    intro i fu h2 h3
    obtain ⟨fu, rfl⟩ : ∃ q, fu = q + 1 := ⟨fu - 1, by omega⟩
    rw [fX6_countReached_4, if_pos (by rw [i_10, i_le (by omega) (by omega)]; omega), show i = 10 by omega]
  | succ j ih =>
    intro i fu h2 h3
    obtain ⟨fu, rfl⟩ : ∃ q, fu = q + 1 := ⟨fu - 1, by omega⟩
    have hi := ih (i + 1) fu (by omega) (by omega)
    have h0 := rB_lt A i
    rw [sm_succ _ i] at hi
    rw [fX6_countReached_4, if_neg (by rw [i_10, i_le (by omega) (by omega)]; omega), ck_t o1, r0, bnd1_some, k_at p5 (by omega) (by omega), bnd2_some, hR.1 i (by omega), k_bitCount (by omega), bnd2_some, nI_add, nI_1]
    exact hi
theorem w_count (hW : WaysAt Z a) (hN : 5000 ≤ N) {M : mM} (hR : WaysR M a A) : fX6_countReached N Z a M = some (nI (sm (fun b => pc (rB A b)) 10), M) := by
  unfold fX6_countReached
  exact w_count4 hW hR 10 0 N (by omega) (by omega)
end WX
