/-! ===== LAYER 3: raised heights, missing pieces ===== -/
def upI (A : Row) (h n : Nat) : Row := fun q => if 11 ≤ q ∧ q < 11 + n then max h (A q) else A q
theorem upI_0 {A : Row} {h : Nat} : upI A h 0 = A := by
  funext q; unfold upI; rw [if_neg (by omega)]
theorem upI_s {A : Row} {h i : Nat} : setA (upI A h i) (11 + i) (max h (A (11 + i))) = upI A h (i + 1) := by
  funext q; unfold setA upI
  by_cases e : q = 11 + i
  · subst e; rw [if_pos rfl, if_pos (by omega)]
  · rw [if_neg e]
    by_cases e2 : 11 ≤ q ∧ q < 11 + i
    · rw [if_pos e2, if_pos (by omega)]
    · rw [if_neg e2, if_neg (by omega)]
theorem upI_e {A : Row} {h n q : Nat} (hq : q < 11 ∨ 11 + n ≤ q) : upI A h n q = A q := by unfold upI; rw [if_neg (by omega)]
theorem upI_h {A : Row} {h n p : Nat} (hp : p < n) : upI A h n (11 + p) = max h (A (11 + p)) := by unfold upI; rw [if_pos (by omega)]
theorem upI_le {A : Row} {h n p : Nat} : A (11 + p) ≤ upI A h n (11 + p) := by unfold upI; split <;> omega
theorem up_aPH {A : Row} {c h p : Nat} (w : WF A c) (hp : p < A 0) : aPH (upI A h (A 0)) p = max h (aPH A p) := by
  have h1 := aL_lt w hp
  unfold aPH
  rw [aL_congr (B := upI A h (A 0)) (upI_e (by omega)), upI_h h1, upI_h hp]
  omega
theorem up_wf {A : Row} {c h : Nat} (w : WF A c) (hh : h ≤ 6) : WF (upI A h (A 0)) c := by
  have w0 := w
  obtain ⟨w1, w2, w3, w4, w5, w6, w7, w8, w9, w10, w11, w12, w13, w14⟩ := w
  have e : ∀ i, i < 11 ∨ 21 ≤ i → upI A h (A 0) i = A i := fun i hi => upI_e (by omega)
  refine ⟨?_, ?_, ?_, ?_, ?_, ?_, ?_, ?_, ?_, ?_, ?_, ?_, ?_, w14⟩
  · rw [e 0 (by omega)]; exact w1
  · rw [e 1 (by omega)]; exact w2
  · rw [e 2 (by omega)]; exact w3
  · rw [e 3 (by omega)]; exact w4
  · intro i hi; unfold upI; have := w5 i hi; split <;> omega
  · intro i hi hi2; rw [e 0 (by omega)] at hi; rw [upI_e (by omega)]; exact w6 i hi hi2
  · intro i l hi hl; rw [e _ (by omega)]; exact w7 i l hi hl
  · intro i l hi hl hq
    rw [e _ (by omega)]
    refine w8 i l hi hl ?_
    have := upI_le (A := A) (h := h) (n := A 0) (p := i)
    omega
  · intro i hi
    rw [e _ (by omega)]
    refine ⟨(w9 i hi).1, fun l hl => ?_⟩
    have := upI_le (A := A) (h := h) (n := A 0) (p := i)
    have := (w9 i hi).2 l hl
    omega
  · intro i hi
    rw [e _ (by omega)]
    refine ⟨(w10 i hi).1, fun l hl => ?_⟩
    have := upI_le (A := A) (h := h) (n := A 0) (p := i)
    have := (w10 i hi).2 l hl
    omega
  · intro i hi
    rw [e (111 + i) (by omega), e 0 (by omega)]
    refine ⟨(w11 i hi).1, fun l hl => ?_⟩
    have h3 := (w11 i hi).2 l hl
    rw [up_aPH w0 h3.2.2]
    omega
  · rw [e 4 (by omega)]; exact w12
  · intro k hk; rw [e _ (by omega)]; exact w13 k hk
/-- how many pieces are missing -/
def aMs (A : Row) (k h : Nat) : Nat := sm (fun p => if k = 0 then h - aPH A p else 2 * (h - A (11 + p))) (A 0) - A (5 + k)
theorem gz {D y : Nat} (hD : D < 2147483648) (hy : y < 2147483648) : (if (0 : Int32) < nI D - nI y then nI D - nI y else 0) = nI (D - y) := by
  by_cases h : y ≤ D
  · rw [i_sub h]
    by_cases h2 : D - y = 0
    · rw [h2, if_neg (by decide)]; rfl
    · rw [if_pos (by rw [i_0, i_lt (by omega) (by omega)]; omega)]
  · have e : ¬ (0 : Int32) < nI D - nI y := by
      rw [Int32.lt_iff_toInt_lt, Int32.toInt_sub, nI_toInt (by omega), nI_toInt (by omega), show (0 : Int32).toInt = 0 from rfl, Int.bmod_eq_of_le (by omega) (by omega)]
      omega
    rw [if_neg e, show D - y = 0 by omega]; rfl
section MS
variable {N : Nat} {Z : mZ} {A : Row} {c b : Nat}
theorem k_raise2 (hP : PlanAt Z b) (w : WF A c) {h : Nat} (hh : h ≤ 6) : ∀ (j i fu : Nat) (M : mM), i + j = A 0 → j < fu → RelP M b (upI A h i) →
    ∃ M', fX4_raiseAllTo_2 N Z fu b (nI h) (nI i) M = some ((), M') ∧ RelP M' b (upI A h (A 0)) ∧ Same (inP b) M M' := by
  have h1 := w.1
  have oP := hP
  obtain ⟨o1, o2, -, -, -, -, ⟨o4, o5, o6⟩, -⟩ := hP
  intro j
  induction j with
  | zero =>
    intro i fu M h2 h3 hR
    obtain ⟨fu, rfl⟩ : ∃ q, fu = q + 1 := ⟨fu - 1, by omega⟩
    have hi : i = A 0 := by omega
    have h0 := hR.1
    rw [upI_e (by omega)] at h0
    refine ⟨M, ?_, by rw [← hi]; exact hR, Same.rfl⟩
    rw [fX4_raiseAllTo_2, ck_t o1, h0, if_pos (by rw [i_le (by omega) (by omega)]; omega)]
  | succ j ih =>
    intro i fu M h2 h3 hR
    obtain ⟨fu, rfl⟩ : ∃ q, fu = q + 1 := ⟨fu - 1, by omega⟩
    have h0 := hR.1
    have hr := hR.2.2.1 i (by omega)
    have h6 := w.2.2.2.2.1 i (by omega)
    rw [upI_e (by omega)] at h0
    rw [upI_e (by omega)] at hr
    have hv : (if nI h < nI (A (11 + i)) then nI (A (11 + i)) else nI h) = nI (max h (A (11 + i))) := by
      by_cases q : h < A (11 + i)
      · rw [if_pos (by rw [i_lt (by omega) (by omega)]; exact q), Nat.max_eq_right (by omega)]
      · rw [if_neg (by rw [i_lt (by omega) (by omega)]; exact q), Nat.max_eq_left (by omega)]
    have hR' := hR.height (p := i) (by omega) (max h (A (11 + i)))
    rw [upI_s] at hR'
    obtain ⟨M', e1, e2, e3⟩ := ih (i + 1) fu _ (by omega) (by omega) hR'
    refine ⟨M', ?_, e2, (Same.put (S := inP b) ⟨by omega, by omega⟩).trans e3⟩
    rw [fX4_raiseAllTo_2, ck_t o1, h0, if_neg (by rw [i_le (by omega) (by omega)]; omega), o2, bnd1_some, k_at o5 (by omega) (by omega), bnd2_some, hr, hv, k_write o4 (by omega) (by omega), bnd2_some, nI_1]
    exact e1
theorem k_missing (hN : 5000 ≤ N) (hC : ClsAt Z) (w : WF A c) {M : mM} (hR : RelP M 9 A) {k h : Nat} (hk : k ≤ 1) (hh : h ≤ 6) : ∃ M', fX8_missing_17 N Z 8 (nI k) (nI h) M = some (.inl (nI (aMs A k h)), M') ∧ Same (inP 15) M M' := by
  have h1 := w.1
  obtain ⟨o8, ⟨r0, r1, -⟩, ⟨p9, p15, -⟩, -⟩ := hC
  obtain ⟨M2, e2, R2, s2⟩ := k_raise2 (N := N) p15 w hh (A 0) 0 N (cpM M 15 9) (by omega) (by omega) (by rw [upI_0]; exact cpM_rel hR)
  have s12 : Same (inP 15) M M2 := cpM_same.trans s2
  have R9 : RelP M2 9 A := hR.same s12 (fun a h1 h2 h3 => by have := h3.1; omega)
  have e15 := k_pieces (N := N) hN p15 R2 (up_wf w hh) (k := k) (by omega)
  have e9 := k_pieces (N := N) hN p9 R9 w (k := k) (by omega)
  have hy := w.2.2.2.2.2.2.2.2.2.2.2.2.1 k (by omega)
  have hc := w.2.2.2.2.2.2.2.2.2.2.2.2.2
  have hD : aPieces (upI A h (A 0)) k = aPieces A k + sm (fun p => if k = 0 then h - aPH A p else 2 * (h - A (11 + p))) (A 0) := by
    unfold aPieces
    rw [upI_e (by omega)]
    refine sm_add_le (fun p hp => ?_)
    by_cases k0 : k = 0
    · rw [if_pos k0, if_pos k0, if_pos k0, up_aPH w hp]; omega
    · rw [if_neg k0, if_neg k0, if_neg k0, if_pos (by omega), if_pos (by omega), upI_h hp]; omega
  have hDs : sm (fun p => if k = 0 then h - aPH A p else 2 * (h - A (11 + p))) (A 0) ≤ A 0 * 12 := sm_le (fun p _ => by split <;> omega)
  have hpl : aPieces A k ≤ A 0 * 100 := sm_le (fun p hp => by
    have a1 := aPH_le w hp
    have a2 := w.2.2.2.2.1 p (by omega)
    have a3 := pc_le (mkS A k p)
    split
    · omega
    · split <;> omega)
  have P9 := p9
  obtain ⟨a1, -, -, -, -, a5, -, -, -, -, ⟨-, b5, b6⟩⟩ := p9
  refine ⟨M2, ?_, s12⟩
  unfold fX8_missing_17
  rw [if_neg (nI_pos (by omega)), if_pos (by rw [i_6, i_le (by omega) (by omega)]; exact hh), ck_t o8, r1, bnd1_some, r0, bnd1_some, ck_t p15.1, k_copy hN p15 P9 (by omega), bnd2_some]
  have e2' : fX4_raiseAllTo N Z 15 (nI h) (cpM M 15 9) = some ((), M2) := e2
  rw [e2', bnd2_some, e15, bnd2_some, ck_t a1, e9, bnd2_some, a5, bnd1_some, k_at b5 (by omega) (by omega), bnd2_some, R9.2.2.2.2.2.2.2 k (by omega), hD, i_sub (by omega), show aPieces A k + sm (fun p => if k = 0 then h - aPH A p else 2 * (h - A (11 + p))) (A 0) - aPieces A k = sm (fun p => if k = 0 then h - aPH A p else 2 * (h - A (11 + p))) (A 0) by omega, gz (by omega) (by omega)]
  rfl
theorem m_greater0 {D y : Nat} {M : mM} (hD : D < 2147483648) (hy : y < 2147483648) : fX9_greater N Z (0 : Int32) (nI D - nI y) M = some (nI (D - y), M) := by
  have e := gz hD hy
  unfold fX9_greater
  by_cases h : (0 : Int32) < nI D - nI y
  · rw [if_pos h] at e
    rw [if_pos (Int32.le_of_lt h), e]
  · rw [if_neg h] at e
    by_cases h2 : (0 : Int32) ≤ nI D - nI y
    · rw [if_pos h2]
      have : nI D - nI y = 0 := Int32.le_antisymm (Int32.not_lt.mp h) h2
      rw [this, e]
    · rw [if_neg h2, e]
theorem m_missing42 (hM : ModAt Z) (w : WF A c) {M : mM} (hR : RowAt M 117 A) {k h : Nat} (hk : k ≤ 1) (hh : h ≤ 6) : ∀ (j i fu : Nat), i + j = A 0 → j < fu → fX9_missing_42 N Z fu 116 (nI k) (nI h) (nI (sm (fun p => if k = 0 then h - aPH A p else 2 * (h - A (11 + p))) i)) (nI i) M = some (nI (aMs A k h), M) := by
  have h1 := w.1
  have hy := w.2.2.2.2.2.2.2.2.2.2.2.2.1 k (by omega)
  have hc := w.2.2.2.2.2.2.2.2.2.2.2.2.2
  have eH := fun p hp => m_postHigh (N := N) (p := p) hM hR w hp
  have eh := fun p hp => m_high (N := N) (p := p) hM hR hp
  have hDs : ∀ n, n ≤ A 0 → sm (fun p => if k = 0 then h - aPH A p else 2 * (h - A (11 + p))) n ≤ n * 12 := fun n _ => sm_le (fun p _ => by split <;> omega)
  obtain ⟨o1, ⟨o2, -⟩, ⟨g4, g5, g6⟩, -⟩ := hM
  intro j
  induction j with
  | zero =>
    intro i fu h2 h3
    obtain ⟨fu, rfl⟩ : ∃ q, fu = q + 1 := ⟨fu - 1, by omega⟩
    have hD := hDs (A 0) (by omega)
    rw [fX9_missing_42, ck_t o1, o2, bnd1_some, ck_t g5, g6, ck_t (by decide), cl_0, hR 0 (by omega), if_pos (by rw [i_le (by omega) (by omega)]; omega), i_5, nI_add, ck_t (by rw [i_inB (by omega)]; exact decide_eq_true (by omega)), i_cl (by omega), hR _ (by omega), show i = A 0 by omega, m_greater0 (by omega) (by omega), bnd2_some]
    rfl
  | succ j ih =>
    intro i fu h2 h3
    obtain ⟨fu, rfl⟩ : ∃ q, fu = q + 1 := ⟨fu - 1, by omega⟩
    have hi := ih (i + 1) fu (by omega) (by omega)
    rw [sm_succ _ i] at hi
    have a1 := aPH_le w (p := i) (by omega)
    have a2 := w.2.2.2.2.1 i (by omega)
    rw [fX9_missing_42, ck_t o1, o2, bnd1_some, ck_t g5, g6, ck_t (by decide), cl_0, hR 0 (by omega), if_neg (by rw [i_le (by omega) (by omega)]; omega)]
    by_cases k0 : k = 0
    · subst k0
      rw [if_pos (show nI 0 = 0 from rfl), eH i (by omega), bnd2_some, m_greater0 (by omega) (by omega), bnd2_some, nI_1, nI_add]
      exact hi
    · rw [if_neg (by rw [i_0, i_eq (by omega) (by omega)]; exact k0), eh i (by omega), bnd2_some, m_greater0 (by omega) (by omega), bnd2_some, nI_1, i_2, pk_mul, nI_add]
      rw [if_neg k0] at hi
      exact hi
end MS
