/-! ===== LAYER 3: dismantling, the reference ===== -/
def onDw (a j : Nat) : Prop := onA a j ∨ a = 125 ∨ (a = 116 ∧ j = 16)
def onDm (a j : Nat) : Prop := onDw a j ∨ a = 120
theorem ffr_step {p : Nat → Bool} {n k : Nat} (h : k < n) : ffr p (n - k) k = if p k then some k else ffr p (n - (k + 1)) (k + 1) := by
  rw [show n - k = (n - (k + 1)) + 1 by omega]; rfl
/-- the rest of the search, from candidate k on -/
def TR (B : Row) (t k : Nat) (M : mM) (R : Option (Int32 × mM)) : Prop :=
  (ffr (sucA B) (30 * B 0 - k) k = none → ∃ M', R = some (0, M') ∧ Fr onA M M' ∧ RowAt M' 117 B) ∧
  (∀ k', ffr (sucA B) (30 * B 0 - k) k = some k' → ∃ M', R = some (1, M') ∧ Fr onDw M M' ∧ RowAt M' 117 (takeA B k') ∧ M'.1 116 16 = nI (t + 1) ∧ Wrote M M' 125 t (cKd B k', cPl B k', cLv B k'))
theorem TR.skip {B : Row} {t k : Nat} {M M1 : mM} {R : Option (Int32 × mM)} (h : TR B t (k + 1) M1 R) (hk : k < 30 * B 0) (hs : sucA B k = false) (f : Fr onA M M1) : TR B t k M R := by
  unfold TR
  rw [ffr_step hk, hs, if_neg (by decide)]
  constructor
  · intro q
    obtain ⟨M', x1, x2, x3⟩ := h.1 q
    exact ⟨M', x1, f.trans x2, x3⟩
  · intro k' q
    obtain ⟨M', x1, x2, x3, x4, x5⟩ := h.2 k' q
    refine ⟨M', x1, (f.mono (fun a j h => Or.inl h)).trans x2, x3, x4, x5.1, x5.2.1, x5.2.2.1, fun i hi => ?_⟩
    rw [x5.2.2.2 i hi]
    exact f.1 125 i (fun h => by unfold onA at h; omega)
theorem TR.done {B : Row} {t k : Nat} {M : mM} {R : Option (Int32 × mM)} (hk : k < 30 * B 0) (hs : sucA B k = true) (h : ∃ M', R = some (1, M') ∧ Fr onDw M M' ∧ RowAt M' 117 (takeA B k) ∧ M'.1 116 16 = nI (t + 1) ∧ Wrote M M' 125 t (cKd B k, cPl B k, cLv B k)) : TR B t k M R := by
  unfold TR
  rw [ffr_step hk, hs, if_pos rfl]
  exact ⟨fun q => (by cases q), fun k' q => (by cases q; exact h)⟩
theorem jst_cls {A : Row} {what p l : Nat} (c1 c2 : Nat) : jst A what p l c1 true = jst A what p l c2 true := rfl
theorem doA_cls {A : Row} {what p l : Nat} (c1 c2 : Nat) : doA A what p l c1 true = doA A what p l c2 true := rfl
section DT
variable {N : Nat} {Z : mZ} {B : Row} {c t : Nat}
theorem t_55 (hN : 5000 ≤ N) (hM : ModAt Z) (w : WF B c) (hc : c + 1 ≤ 1000000) {M : mM} (hR : RowAt M 117 B) (ht : M.1 116 16 = nI t) (ht3 : t < 300) (K3 : Nat → Int32 → mM → Option (Int32 × mM)) (K9 : Nat → Int32 → Int32 → mM → Option (Int32 × mM)) (K30 : Nat → Int32 → Int32 → Int32 → Int32 → mM → Option (Int32 × mM)) {k s : Nat} (hk : k < 30 * B 0) (h0 : cKd B k ≠ 0 ∨ B (11 + cPl B k) = cLv B k)
    (hK : ∀ M1, Fr onA M M1 → RowAt M1 117 B → TR B t (k + 1) M1 (K30 116 (nI (cLv B k)) (nI s) (nI (cKd B k)) (nI (cPl B k) + 1) M1)) :
    TR B t k M (fX9_takesFirst_55 N Z K3 K9 K30 116 (nI (cLv B k)) (nI s) (nI (cKd B k)) (nI (cPl B k)) M) := by
  have h1 := w.1
  have hp := cPl_lt (k := k) w
  have hl := cLv_le w hk
  have hkd := cKd_k B k
  have hlv : lvA B (cKd B k) (cPl B k) (nI (cLv B k)).toNatClampNeg true = cLv B k := by
    unfold lvA
    rw [i_cl (by omega)]
    by_cases q : cKd B k = 0
    · rw [if_pos q, if_pos rfl]; exact h0.elim (fun h => absurd q h) id
    · rw [if_neg q]
  obtain ⟨M1, e1, g1⟩ := m_against (N := N) (cls := 0) (x := nI (cLv B k)) (tk := true) hN hM w hc hR hkd hp (fun _ h => Bool.noConfusion h)
  rw [hlv] at e1 g1
  have e1' : fX9_against N Z 116 (nI (cKd B k)) (nI (cPl B k)) (nI (cLv B k)) (1 : Int32) (0 : Int32) M = some (nI (rN (jst B (cKd B k) (cPl B k) (cLv B k) 0 true)), M1) := e1
  obtain ⟨f1, R1, -⟩ := g1
  unfold fX9_takesFirst_55
  rw [ck_t hM.1, e1', bnd2_some]
  by_cases hj : jst B (cKd B k) (cPl B k) (cLv B k) 0 true = none
  · have hs : sucA B k = true := decide_eq_true ⟨h0, hj⟩
    have ho := sucA_ok w hs
    have ho' : OkA B (cKd B k) (cPl B k) (cLv B k) 0 true := ⟨ho.1, ho.2.1, ho.2.2.1, ho.2.2.2.1, ho.2.2.2.2.1, ho.2.2.2.2.2.1, ho.2.2.2.2.2.2.1, ho.2.2.2.2.2.2.2.1, fun _ h => Bool.noConfusion h⟩
    obtain ⟨M2, e2, R2, s2⟩ := m_does (N := N) hN hM R1 w hc ho'
    have e2' : fX9_does N Z 116 (nI (cKd B k)) (nI (cPl B k)) (nI (cLv B k)) (1 : Int32) (0 : Int32) M1 = some ((), M2) := e2
    have t2 : M2.1 116 16 = nI t := by
      rw [s2.1 116 (fun h => by unfold on117 at h; omega), f1.1 116 16 (fun h => by unfold onA at h; omega)]; exact ht
    have k2 : ∀ i, M2.1 125 i = M.1 125 i := fun i => by
      rw [s2.1 125 (fun h => by unfold on117 at h; omega), f1.1 125 i (fun h => by unfold onA at h; omega)]
    refine TR.done hk hs ?_
    obtain ⟨-, ⟨-, -, -, -, -, -, -, -, r15, -⟩, -, -, -, -, -, -, -, -, ⟨a4, a5, a6⟩, -⟩ := hM
    rw [if_pos (rN_zero.2 hj), e2', bnd2_some, r15, bnd1_some, ck_t a4]
    have n1 : ∀ v, (sI M2 125 (3 * t) v).1 116 16 = nI t := fun v => by rw [sI_ne _ _ (by omega)]; exact t2
    have n2 : ∀ v v', (sI (sI M2 125 (3 * t) v) 125 (3 * t + 1) v').1 116 16 = nI t := fun v v' => by rw [sI_ne _ _ (by omega)]; exact n1 v
    have n3 : ∀ v v' v'', (sI (sI (sI M2 125 (3 * t) v) 125 (3 * t + 1) v') 125 (3 * t + 2) v'').1 116 16 = nI t := fun v v' v'' => by rw [sI_ne _ _ (by omega)]; exact n2 v v'
    have ib : ∀ i, i < 900 → inB (nI i) (Z.2.2.1 125) = true := fun i hi => by rw [a6, i_inB (by omega)]; exact decide_eq_true hi
    have q0 : (3 : Int32) * nI t = nI (3 * t) := by rw [i_3, pk_mul]
    have c0 : (nI (3 * t)).toNatClampNeg = 3 * t := i_cl (by omega)
    have c1 : (nI (3 * t + 1)).toNatClampNeg = 3 * t + 1 := i_cl (by omega)
    have c2 : (nI (3 * t + 2)).toNatClampNeg = 3 * t + 2 := i_cl (by omega)
    have p1 : nI (3 * t) + 1 = nI (3 * t + 1) := nI_add _ 1
    have p2 : nI (3 * t) + 2 = nI (3 * t + 2) := nI_add _ 2
    have p3 : nI t + 1 = nI (t + 1) := nI_add _ 1
    refine ⟨sI (sI (sI (sI M2 125 (3 * t) (nI (cKd B k))) 125 (3 * t + 1) (nI (cPl B k))) 125 (3 * t + 2) (nI (cLv B k))) 116 16 (nI (t + 1)), ?_, ?_, ?_, ?_, ?_, ?_, ?_, ?_⟩
    · rw [t2, q0, ck_t (ib _ (by omega)), c0, n1, q0, p1, ck_t (ib _ (by omega)), c1, n2, q0, p2, ck_t (ib _ (by omega)), c2, n3, p3]
    · refine (((((f1.mono (fun a j h => Or.inl h)).trans (s2.fr.mono (fun a j h => Or.inl (Or.inl h)))).trans (Fr.put ?_)).trans (Fr.put ?_)).trans (Fr.put ?_)).trans (Fr.put ?_)
      · exact Or.inr (Or.inl rfl)
      · exact Or.inr (Or.inl rfl)
      · exact Or.inr (Or.inl rfl)
      · exact Or.inr (Or.inr ⟨rfl, rfl⟩)
    · intro i hi
      rw [sI_ne _ _ (by omega), sI_ne _ _ (by omega), sI_ne _ _ (by omega), sI_ne _ _ (by omega)]
      exact R2 i hi
    · rw [sI_same]
    · rw [sI_ne _ _ (by omega), sI_ne _ _ (by omega), sI_ne _ _ (by omega), sI_same]
    · rw [sI_ne _ _ (by omega), sI_ne _ _ (by omega), sI_same]
    · rw [sI_ne _ _ (by omega), sI_same]
    · intro i hi
      rw [sI_ne _ _ (by omega), sI_ne _ _ (by omega), sI_ne _ _ (by omega), sI_ne _ _ (by omega)]; exact k2 i
  · have hs : sucA B k = false := decide_eq_false (fun h => hj h.2)
    rw [if_neg (fun e => hj (rN_zero.1 e))]
    exact (hK M1 f1 R1).skip hk hs f1
/-- candidate (l, s, p) -/
theorem cand {n l s p : Nat} (hp : p < n) (hs : s < 5) (hl : 1 ≤ l ∧ l ≤ 6) : (((6 - l) * 5 + s) * n + p) % n = p ∧ (((6 - l) * 5 + s) * n + p) / n % 5 = s ∧ 6 - (((6 - l) * 5 + s) * n + p) / n / 5 = l := by
  have h1 : (((6 - l) * 5 + s) * n + p) / n = (6 - l) * 5 + s := by
    rw [Nat.mul_comm, Nat.mul_add_div (by omega), Nat.div_eq_of_lt hp, Nat.add_zero]
  refine ⟨?_, ?_, ?_⟩
  · rw [Nat.mul_comm, Nat.mul_add_mod, Nat.mod_eq_of_lt hp]
  · rw [h1]; omega
  · rw [h1]; omega
theorem t_30 (hN : 5000 ≤ N) (hM : ModAt Z) (w : WF B c) (hc : c + 1 ≤ 1000000) (ht3 : t < 300) (K3 : Nat → Int32 → mM → Option (Int32 × mM)) (K9 : Nat → Int32 → Int32 → mM → Option (Int32 × mM)) {l s : Nat} (hl : 1 ≤ l ∧ l ≤ 6) (hs : s < 5)
    (hK : ∀ M1, RowAt M1 117 B → M1.1 116 16 = nI t → TR B t (((6 - l) * 5 + (s + 1)) * B 0) M1 (K9 116 (nI l) (nI s + 1) M1)) : ∀ (j p fu : Nat) (M : mM), p + j = B 0 → j < fu → RowAt M 117 B → M.1 116 16 = nI t →
    TR B t (((6 - l) * 5 + s) * B 0 + p) M (fX9_takesFirst_30 N Z K3 K9 fu 116 (nI l) (nI s) (nI (oKd s)) (nI p) M) := by
  have h1 := w.1
  have gm := hM
  obtain ⟨o1, ⟨o2, -⟩, ⟨g4, g5, g6⟩, -⟩ := hM
  have hok : oKd s ≤ 5 := by unfold oKd; split <;> omega
  intro j
  induction j with
  | zero =>
    intro p fu M h2 h3 hR ht
    obtain ⟨fu, rfl⟩ : ∃ q, fu = q + 1 := ⟨fu - 1, by omega⟩
    have hp : p = B 0 := by omega
    rw [fX9_takesFirst_30, ck_t o1, o2, bnd1_some, ck_t g5, g6, ck_t (by decide), cl_0, hR 0 (by omega), if_pos (by rw [i_le (by omega) (by omega)]; omega), hp, show ((6 - l) * 5 + s) * B 0 + B 0 = ((6 - l) * 5 + (s + 1)) * B 0 from (Nat.succ_mul ((6 - l) * 5 + s) (B 0)).symm]
    exact hK M hR ht
  | succ j ih =>
    intro p fu M h2 h3 hR ht
    obtain ⟨fu, rfl⟩ : ∃ q, fu = q + 1 := ⟨fu - 1, by omega⟩
    have hpn : p < B 0 := by omega
    obtain ⟨c1, c2, c3⟩ := cand hpn hs hl
    obtain ⟨k, hk⟩ : ∃ k, k = ((6 - l) * 5 + s) * B 0 + p := ⟨_, rfl⟩
    rw [← hk] at c1 c2 c3 ⊢
    have hk30 : k < 30 * B 0 := by
      have : ((6 - l) * 5 + s + 1) * B 0 ≤ 30 * B 0 := Nat.mul_le_mul_right _ (by omega)
      rw [Nat.succ_mul] at this
      omega
    have dp : cPl B k = p := c1
    have dk : cKd B k = oKd s := by unfold cKd; rw [c2]
    have dl : cLv B k = l := c3
    have hb := w.2.2.2.2.1 p (by omega)
    have nxt : ∀ M1, Fr onA M M1 → RowAt M1 117 B → TR B t (k + 1) M1 (fX9_takesFirst_30 N Z K3 K9 fu 116 (nI l) (nI s) (nI (oKd s)) (nI p + 1) M1) := fun M1 f R => by
      rw [nI_1, hk]
      exact ih (p + 1) fu M1 (by omega) (by omega) R (by rw [f.1 116 16 (fun h => by unfold onA at h; omega)]; exact ht)
    have go : (cKd B k ≠ 0 ∨ B (11 + cPl B k) = cLv B k) → TR B t k M (fX9_takesFirst_55 N Z K3 K9 (fun w0 w1 w2 w3 w4 M9 => fX9_takesFirst_30 N Z K3 K9 fu w0 w1 w2 w3 w4 M9) 116 (nI l) (nI s) (nI (oKd s)) (nI p) M) := fun h0 => by
      have h := t_55 (N := N) hN gm w hc hR ht ht3 K3 K9 (fun w0 w1 w2 w3 w4 M9 => fX9_takesFirst_30 N Z K3 K9 fu w0 w1 w2 w3 w4 M9) (s := s) hk30 h0 (by rw [dp, dk, dl]; exact nxt)
      rw [dp, dk, dl] at h
      exact h
    rw [fX9_takesFirst_30, ck_t o1, o2, bnd1_some, ck_t g5, g6, ck_t (by decide), cl_0, hR 0 (by omega), if_neg (by rw [i_le (by omega) (by omega)]; omega)]
    by_cases q0 : oKd s = 0
    · rw [if_neg (by rw [i_0, i_lt (by omega) (by omega)]; omega), m_high gm hR (by omega), bnd2_some]
      by_cases qh : B (11 + p) = l
      · rw [if_pos (by rw [qh])]
        exact go (Or.inr (by rw [dp, dl]; exact qh))
      · rw [if_neg (by rw [i_eq (by omega) (by omega)]; exact qh)]
        have hf : sucA B k = false := decide_eq_false (fun h => by
          have := h.1
          rw [dk, dp, dl] at this
          exact this.elim (fun h => h q0) qh)
        exact (nxt M Fr.rfl hR).skip hk30 hf Fr.rfl
    · rw [if_pos (by rw [i_0, i_lt (by omega) (by omega)]; omega)]
      exact go (Or.inl (by rw [dk]; exact q0))
theorem t_9 (hN : 5000 ≤ N) (hM : ModAt Z) (w : WF B c) (hc : c + 1 ≤ 1000000) (ht3 : t < 300) (K3 : Nat → Int32 → mM → Option (Int32 × mM)) {l : Nat} (hl : 1 ≤ l ∧ l ≤ 6)
    (hK : ∀ M1, RowAt M1 117 B → M1.1 116 16 = nI t → TR B t ((6 - l + 1) * 5 * B 0) M1 (K3 116 (nI l + (-1 : Int32)) M1)) : ∀ (j s fu : Nat) (M : mM), s + j = 5 → j < fu → RowAt M 117 B → M.1 116 16 = nI t →
    TR B t (((6 - l) * 5 + s) * B 0) M (fX9_takesFirst_9 N Z K3 fu 116 (nI l) (nI s) M) := by
  have h1 := w.1
  intro j
  induction j with
  | zero =>
    intro s fu M h2 h3 hR ht
    obtain ⟨fu, rfl⟩ : ∃ q, fu = q + 1 := ⟨fu - 1, by omega⟩
    have hs : s = 5 := by omega
    subst hs
    rw [fX9_takesFirst_9, if_pos (by decide), show (6 - l) * 5 + 5 = (6 - l + 1) * 5 by omega]
    exact hK M hR ht
  | succ j ih =>
    intro s fu M h2 h3 hR ht
    obtain ⟨fu, rfl⟩ : ∃ q, fu = q + 1 := ⟨fu - 1, by omega⟩
    have h30 := t_30 (N := N) hN hM w hc ht3 K3 (fun w0 w1 w2 M9 => fX9_takesFirst_9 N Z K3 fu w0 w1 w2 M9) (s := s) hl (by omega) (fun M1 R T => by
      show TR B t (((6 - l) * 5 + (s + 1)) * B 0) M1 (fX9_takesFirst_9 N Z K3 fu 116 (nI l) (nI s + 1) M1)
      rw [nI_1]
      exact ih (s + 1) fu M1 (by omega) (by omega) R T) (B 0) 0 N M (by omega) (by omega) hR ht
    rw [Nat.add_zero] at h30
    rw [fX9_takesFirst_9, if_neg (by rw [i_5, i_le (by omega) (by omega)]; omega)]
    by_cases q : 4 ≤ s
    · rw [if_pos (by rw [i_4, i_le (by omega) (by omega)]; exact q)]
      have e : oKd s = 0 := by unfold oKd; rw [if_neg (by omega)]
      rw [e] at h30; exact h30
    · rw [if_neg (by rw [i_4, i_le (by omega) (by omega)]; exact q), i_5, i_sub (by omega)]
      have e : oKd s = 5 - s := by unfold oKd; rw [if_pos (by omega)]
      rw [e] at h30; exact h30
theorem t_3 (hN : 5000 ≤ N) (hM : ModAt Z) (w : WF B c) (hc : c + 1 ≤ 1000000) (ht3 : t < 300) : ∀ (l fu : Nat) (M : mM), l ≤ 6 → l < fu → RowAt M 117 B → M.1 116 16 = nI t →
    TR B t ((6 - l) * 5 * B 0) M (fX9_takesFirst_3 N Z fu 116 (nI l) M) := by
  have h1 := w.1
  intro l
  induction l with
  | zero =>
    intro fu M h2 h3 hR ht
    obtain ⟨fu, rfl⟩ : ∃ q, fu = q + 1 := ⟨fu - 1, by omega⟩
    rw [fX9_takesFirst_3, if_pos (by decide)]
    unfold TR
    rw [show (6 - 0) * 5 * B 0 = 30 * B 0 from rfl, Nat.sub_self]
    exact ⟨fun _ => ⟨M, rfl, Fr.rfl, hR⟩, fun k' h => by cases h⟩
  | succ l ih =>
    intro fu M h2 h3 hR ht
    obtain ⟨fu, rfl⟩ : ∃ q, fu = q + 1 := ⟨fu - 1, by omega⟩
    have h9 := t_9 (N := N) hN hM w hc ht3 (fun w0 w1 M9 => fX9_takesFirst_3 N Z fu w0 w1 M9) (l := l + 1) ⟨by omega, h2⟩ (fun M1 R T => by
      show TR B t ((6 - (l + 1) + 1) * 5 * B 0) M1 (fX9_takesFirst_3 N Z fu 116 (nI (l + 1) + (-1 : Int32)) M1)
      rw [i_m1, add_neg _ _ (by omega), show l + 1 - 1 = l by omega, show 6 - (l + 1) + 1 = 6 - l by omega]
      exact ih fu M1 (by omega) (by omega) R T) 5 0 N M (by omega) (by omega) hR ht
    rw [Nat.add_zero] at h9
    rw [fX9_takesFirst_3, if_neg (by rw [i_0, i_le (by omega) (by omega)]; omega)]
    exact h9
theorem m_takesFirst (hN : 5000 ≤ N) (hM : ModAt Z) (w : WF B c) (hc : c + 1 ≤ 1000000) (ht3 : t < 300) {M : mM} (hR : RowAt M 117 B) (ht : M.1 116 16 = nI t) : TR B t 0 M (fX9_takesFirst N Z 116 M) := by
  have h := t_3 (N := N) hN hM w hc ht3 6 N M (by omega) (by omega) hR ht
  rw [show (6 - 6) * 5 * B 0 = 0 by omega] at h
  exact h
theorem m_levels4 (hM : ModAt Z) (w : WF B c) {M : mM} (hR : RowAt M 117 B) : ∀ (j i fu : Nat), i + j = B 0 → j < fu → fX9_levels_4 N Z fu 116 (nI (sm (fun p => B (11 + p)) i)) (nI i) M = some (nI (lvs B), M) := by
  have h1 := w.1
  have e2 := fun p hp => m_high (N := N) (p := p) hM hR hp
  obtain ⟨o1, ⟨o2, -⟩, ⟨g4, g5, g6⟩, -⟩ := hM
  intro j
  induction j with
  | zero =>
    intro i fu h2 h3
    obtain ⟨fu, rfl⟩ : ∃ q, fu = q + 1 := ⟨fu - 1, by omega⟩
    rw [fX9_levels_4, ck_t o1, o2, bnd1_some, ck_t g5, g6, ck_t (by decide), cl_0, hR 0 (by omega), if_pos (by rw [i_le (by omega) (by omega)]; omega), show i = B 0 by omega]
    rfl
  | succ j ih =>
    intro i fu h2 h3
    obtain ⟨fu, rfl⟩ : ∃ q, fu = q + 1 := ⟨fu - 1, by omega⟩
    have hi := ih (i + 1) fu (by omega) (by omega)
    rw [sm_succ _ i] at hi
    rw [fX9_levels_4, ck_t o1, o2, bnd1_some, ck_t g5, g6, ck_t (by decide), cl_0, hR 0 (by omega), if_neg (by rw [i_le (by omega) (by omega)]; omega), e2 i (by omega), bnd2_some, nI_1, nI_add]
    exact hi
theorem m_levels (hN : 5000 ≤ N) (hM : ModAt Z) (w : WF B c) {M : mM} (hR : RowAt M 117 B) : fX9_levels N Z 116 M = some (nI (lvs B), M) := by
  have h1 := w.1
  unfold fX9_levels
  exact m_levels4 hM w hR (B 0) 0 N (by omega) (by omega)
theorem lvs_le (w : WF B c) : lvs B ≤ 60 := by
  have h1 := w.1
  have := sm_le (f := fun p => B (11 + p)) (k := 6) (n := B 0) (fun i hi => w.2.2.2.2.1 i (by omega))
  unfold lvs; omega
theorem m_dism18 (hN : 5000 ≤ N) (hM : ModAt Z) {A : Row} : ∀ (j t fu : Nat) (B : Row) (c : Nat) (M : mM), t + j = 300 → j + 1 < fu → muA B ≤ j → WF B c → c + j ≤ 1000000 → RowAt M 117 B → RowAt M 120 A → M.1 116 16 = nI t →
    ∃ M', fX9_dismantles_18 N Z fu 116 (1 : Int32) M = some (if lvs (dsR j B) = 0 then 1 else 0, M') ∧ Fr onDw M M' ∧ RowAt M' 117 A ∧ M'.1 116 16 = nI (t + (dsL j B).length) ∧ (∀ i, i < 3 * t → M'.1 125 i = M.1 125 i) ∧ KeptL M' 125 t (dsL j B) := by
  have gm := hM
  obtain ⟨o1, ⟨r0, -, -, r3, -⟩, ⟨g4, g5, g6⟩, -, -, ⟨h4, h5, h6⟩, -⟩ := hM
  have back : ∀ (M : mM), RowAt M 120 A → fX9_copies N Z 120 117 M = some ((), fillA M 117 (M.1 120) 121) ∧ Fr onDw M (fillA M 117 (M.1 120) 121) ∧ RowAt (fillA M 117 (M.1 120) 121) 117 A := fun M h =>
    ⟨m_copies hN h5 h6 g4 g6 (by omega), (Same.fill (S := fun x => x = 117) rfl).fr.mono (fun a j h => Or.inl (Or.inl h)), h.fill⟩
  have stop : ∀ (t fu : Nat) (B : Row) (c : Nat) (M : mM), WF B c → lvs B = 0 → RowAt M 117 B → RowAt M 120 A → M.1 116 16 = nI t → ∀ j, 
      ∃ M', fX9_dismantles_18 N Z (fu + 1) 116 (1 : Int32) M = some (if lvs (dsR j B) = 0 then 1 else 0, M') ∧ Fr onDw M M' ∧ RowAt M' 117 A ∧ M'.1 116 16 = nI (t + (dsL j B).length) ∧ (∀ i, i < 3 * t → M'.1 125 i = M.1 125 i) ∧ KeptL M' 125 t (dsL j B) := by
    intro t fu B c M w hz hR hA ht j
    have hp := pick_zero w hz
    obtain ⟨b1, b2, b3⟩ := back M hA
    rw [dsL_n hp, dsR_n hp]
    refine ⟨_, ?_, b2, b3, ?_, fun i _ => fillA_ne (by omega), fun i q hq => ?_⟩
    · rw [fX9_dismantles_18, if_neg (by decide), ck_t o1, m_levels hN gm w hR, bnd2_some, hz, if_pos (by decide), r3, bnd1_some, r0, bnd1_some, b1, bnd2_some, ck_t (by decide), if_pos rfl]
    · rw [fillA_ne (by omega), ht]; rfl
    · rw [List.getElem?_nil] at hq; cases hq
  intro j
  induction j with
  | zero =>
    intro t fu B c M h2 h3 hm w hc hR hA ht
    obtain ⟨fu, rfl⟩ : ∃ q, fu = q + 1 := ⟨fu - 1, by omega⟩
    have hz : lvs B = 0 := by
      have hle : lvs B ≤ muA B := by
        have h1 := w.1
        have : ∀ n, n ≤ 10 → sm (fun p => B (11 + p)) n ≤ sm (tmA B) 10 := fun n hn => by
          have g : ∀ n, sm (fun p => B (11 + p)) n ≤ sm (tmA B) n := fun n => by
            induction n with
            | zero => exact Nat.le_refl _
            | succ n ih => rw [sm_succ, sm_succ]; have : B (11 + n) ≤ tmA B n := by unfold tmA; omega
                           omega
          have g2 : ∀ m, sm (tmA B) n ≤ sm (tmA B) (n + m) := fun m => by
            induction m with
            | zero => exact Nat.le_refl _
            | succ m ih => rw [show n + (m + 1) = (n + m) + 1 by omega, sm_succ]; omega
          have := g2 (10 - n)
          rw [show n + (10 - n) = 10 by omega] at this
          have := g n
          omega
        exact this (B 0) (by omega)
      omega
    exact stop t fu B c M w hz hR hA ht 0
  | succ j ih =>
    intro t fu B c M h2 h3 hm w hc hR hA ht
    obtain ⟨fu, rfl⟩ : ∃ q, fu = q + 1 := ⟨fu - 1, by omega⟩
    have hl := lvs_le w
    by_cases hz : lvs B = 0
    · exact stop t fu B c M w hz hR hA ht (j + 1)
    have hT := m_takesFirst (N := N) hN gm w (by omega) (show t < 300 by omega) hR ht
    unfold TR at hT
    rw [Nat.sub_zero] at hT
    have st : fX9_dismantles_18 N Z (fu + 1) 116 (1 : Int32) M = bnd2 (fX9_takesFirst N Z 116 M) (fun r18 M18 => fX9_dismantles_18 N Z fu 116 r18 M18) := by
      rw [fX9_dismantles_18, if_neg (by decide), ck_t o1, m_levels hN gm w hR, bnd2_some, if_neg (by rw [i_0, i_le (by omega) (by omega)]; omega)]
    cases hp : pick B with
    | none =>
      obtain ⟨M1, e1, f1, R1⟩ := hT.1 hp
      have A1 : RowAt M1 120 A := hA.fr f1 (fun j h => by unfold onA at h; omega)
      obtain ⟨b1, b2, b3⟩ := back M1 A1
      obtain ⟨fu, rfl⟩ : ∃ q, fu = q + 1 := ⟨fu - 1, by omega⟩
      rw [dsL_n hp, dsR_n hp]
      refine ⟨_, ?_, (f1.mono (fun a j h => Or.inl h)).trans b2, b3, ?_, fun i _ => ?_, fun i q hq => ?_⟩
      · rw [st, e1, bnd2_some, fX9_dismantles_18, if_pos rfl, ck_t o1, r3, bnd1_some, r0, bnd1_some, b1, bnd2_some, ck_t (by decide), if_neg hz]
      · rw [fillA_ne (by omega), f1.1 116 16 (fun h => by unfold onA at h; omega), ht]; rfl
      · rw [fillA_ne (by omega), f1.1 125 i (fun h => by unfold onA at h; omega)]
      · rw [List.getElem?_nil] at hq; cases hq
    | some k =>
      obtain ⟨M1, e1, f1, R1, t1, w1⟩ := hT.2 k hp
      have hk := ffr_lt _ _ _ hp
      have hsk := ffr_some _ _ _ hp
      have hmu := mu_step w hsk
      have A1 : RowAt M1 120 A := hA.fr f1 (fun j h => by unfold onDw onA at h; omega)
      obtain ⟨M', x1, x2, x3, x4, x5, x6⟩ := ih (t + 1) fu (takeA B k) (c + 1) M1 (by omega) (by omega) (by omega) (takeA_wf w (by omega) hsk) (by omega) R1 A1 t1
      rw [dsL_s hp, dsR_s hp]
      refine ⟨M', ?_, f1.trans x2, x3, ?_, fun i hi => ?_, x6.cons w1 x5⟩
      · rw [st, e1, bnd2_some]; exact x1
      · rw [x4, List.length_cons]; congr 1; omega
      · rw [x5 i (by omega), w1.2.2.2 i hi]
theorem m_dismantles (hN : 5000 ≤ N) (hM : ModAt Z) {A : Row} (w : WF A c) (hc : c + 300 ≤ 1000000) {M : mM} (hR : RowAt M 117 A) :
    ∃ M', fX9_dismantles N Z 116 M = some (if lvs (dsR 300 A) = 0 then 1 else 0, M') ∧ Fr onDm M M' ∧ RowAt M' 117 A ∧ M'.1 116 16 = nI (dsL 300 A).length ∧ KeptL M' 125 0 (dsL 300 A) := by
  have gm := hM
  obtain ⟨o1, ⟨r0, -, -, r3, -⟩, ⟨g4, g5, g6⟩, -, -, ⟨h4, h5, h6⟩, -⟩ := hM
  obtain ⟨M1, hM1⟩ : ∃ M1, M1 = sI (fillA M 120 (M.1 117) 121) 116 16 (nI 0) := ⟨_, rfl⟩
  have f1 : Fr onDm M M1 := by
    rw [hM1]
    exact ((Same.fill (S := fun x => x = 120) rfl).fr.mono (fun a j h => Or.inr h)).trans (Fr.put (Or.inl (Or.inr (Or.inr ⟨rfl, rfl⟩))))
  have R1 : RowAt M1 117 A := fun i hi => by rw [hM1, sI_ne _ _ (by omega), fillA_ne (by omega)]; exact hR i hi
  have A1 : RowAt M1 120 A := fun i hi => by rw [hM1, sI_ne _ _ (by omega), fillA_in hi]; exact hR i hi
  obtain ⟨M', x1, x2, x3, x4, x5, x6⟩ := m_dism18 (N := N) hN gm 300 0 N A c M1 (by omega) (by omega) (muA_le w) w hc R1 A1 (by rw [hM1, sI_same])
  refine ⟨M', ?_, f1.trans (x2.mono (fun a j h => Or.inl h)), x3, by rw [x4, Nat.zero_add], x6⟩
  unfold fX9_dismantles
  rw [ck_t o1, r0, bnd1_some, r3, bnd1_some, m_copies hN g5 g6 h4 h6 (by omega), bnd2_some]
  rw [hM1] at x1
  exact x1
end DT
