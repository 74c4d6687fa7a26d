/-! ===== LAYER 3: what the reference writes into its row ===== -/
theorem setA_comm {A : Row} {k v k' v' : Nat} (h : k ≠ k') : setA (setA A k v) k' v' = setA (setA A k' v') k v := by
  funext i
  unfold setA
  by_cases h1 : i = k'
  · rw [if_pos h1, if_neg (fun q => h (q.symm.trans h1)), if_pos h1]
  · rw [if_neg h1, if_neg h1]
theorem RowAt.set {M : mM} {r : Nat} {A : Row} (h : RowAt M r A) {k : Nat} (hk : k < 121) (v : Nat) : RowAt (sI M r k (nI v)) r (setA A k v) := by
  intro i hi
  by_cases e : i = k
  · subst e; rw [sI_same, setA_eq]
  · rw [sI_ne _ _ (by omega), setA_ne e]; exact h i hi
theorem RowAt.same {S : Nat → Prop} {M M' : mM} {r : Nat} {A : Row} (h : RowAt M r A) (s : Same S M M') (hd : ¬ S r) : RowAt M' r A := fun i hi => by rw [s.1 r hd i]; exact h i hi
theorem sm_one {f g : Nat → Nat} {p : Nat} : ∀ {n : Nat}, p < n → (∀ i, i < n → i ≠ p → f i = g i) → sm g n + f p = sm f n + g p
  | 0, h, _ => absurd h (by omega)
  | n + 1, h, hi => by
    rw [sm_succ, sm_succ]
    by_cases e : p = n
    · subst e; rw [sm_congr (n := p) (fun i hj => hi i (by omega) (by omega))]; omega
    · have := sm_one (n := n) (by omega) (fun i hj => hi i (by omega))
      rw [hi n (by omega) (fun q => e q.symm)]; omega
theorem sm_two {f g : Nat → Nat} {p q n : Nat} (hp : p < n) (hq : q < n) (hpq : p ≠ q) (h : ∀ i, i < n → i ≠ p → i ≠ q → f i = g i) : sm g n + f p + f q = sm f n + g p + g q := by
  have h1 := sm_one (f := f) (g := fun i => if i = p then g p else f i) (p := p) (n := n) hp (fun i _ e => by rw [if_neg e])
  have h2 := sm_one (f := fun i => if i = p then g p else f i) (g := g) (p := q) (n := n) hq (fun i hi e => by
    show (if i = p then g p else f i) = g i
    by_cases e2 : i = p
    · rw [if_pos e2, e2]
    · rw [if_neg e2]; exact h i hi e2 e)
  rw [if_pos rfl] at h1
  rw [if_neg (fun e => hpq e.symm)] at h2
  omega
theorem sub_posts (S d : Nat) : nI S - nI (S + d) = - nI d := by
  rw [← nI_add, Int32.sub_eq_add_neg, Int32.neg_add, Int32.sub_eq_add_neg, ← Int32.add_assoc, Int32.add_right_neg, Int32.zero_add]
section MW
variable {N : Nat} {Z : mZ} {M : mM} {A : Row} {c p l y0 y1 : Nat}
/-- how many posts a level more has -/
theorem posts_up (w : WF A c) (hp : p < A 0) : sm (aPH (doH A p (A (11 + p) + 1) y0 y1)) (A 0) = sm (aPH A) (A 0) + pbl A p (A (11 + p) + 1) := by
  have h4 := w.1
  have hr := aR_lt w hp
  have n1 := aL_ne h4.1 hp
  have n2 := aR_ne h4.1 hp
  have h := sm_two (f := aPH A) (g := aPH (doH A p (A (11 + p) + 1) y0 y1)) hp hr (fun e => n2 e.symm) (fun i hi e1 e2 => by
    rw [doH_aPH, if_neg (fun e => e2 (aL_inv h4.1 hi hp e)), if_neg e1]; rfl)
  have a1 : aPH (doH A p (A (11 + p) + 1) y0 y1) p = max (A (11 + aL A p)) (A (11 + p) + 1) := by rw [doH_aPH, if_neg n1, if_pos rfl]
  have hl : aL A (aR A p) = p := by unfold aL aR; split <;> split <;> omega
  have a2 : aPH (doH A p (A (11 + p) + 1) y0 y1) (aR A p) = max (A (11 + p) + 1) (A (11 + aR A p)) := by rw [doH_aPH, if_pos hl, if_neg n2]
  have a3 : aPH A p = max (A (11 + aL A p)) (A (11 + p)) := rfl
  have a4 : aPH A (aR A p) = max (A (11 + p)) (A (11 + aR A p)) := by unfold aPH; rw [hl]
  rw [a1, a2, a3, a4] at h
  unfold pbl
  split <;> split <;> omega
theorem posts_down (w : WF A c) (hp : p < A 0) (h1 : 1 ≤ A (11 + p)) : sm (aPH A) (A 0) = sm (aPH (doH A p (A (11 + p) - 1) y0 y1)) (A 0) + pbl A p (A (11 + p)) := by
  have h4 := w.1
  have hr := aR_lt w hp
  have n1 := aL_ne h4.1 hp
  have n2 := aR_ne h4.1 hp
  have h := sm_two (f := aPH A) (g := aPH (doH A p (A (11 + p) - 1) y0 y1)) hp hr (fun e => n2 e.symm) (fun i hi e1 e2 => by
    rw [doH_aPH, if_neg (fun e => e2 (aL_inv h4.1 hi hp e)), if_neg e1]; rfl)
  have a1 : aPH (doH A p (A (11 + p) - 1) y0 y1) p = max (A (11 + aL A p)) (A (11 + p) - 1) := by rw [doH_aPH, if_neg n1, if_pos rfl]
  have hl : aL A (aR A p) = p := by unfold aL aR; split <;> split <;> omega
  have a2 : aPH (doH A p (A (11 + p) - 1) y0 y1) (aR A p) = max (A (11 + p) - 1) (A (11 + aR A p)) := by rw [doH_aPH, if_pos hl, if_neg n2]
  have a3 : aPH A p = max (A (11 + aL A p)) (A (11 + p)) := rfl
  have a4 : aPH A (aR A p) = max (A (11 + p)) (A (11 + aR A p)) := by unfold aPH; rw [hl]
  rw [a1, a2, a3, a4] at h
  unfold pbl
  split <;> split <;> omega
theorem WF.works (w : WF A c) {c' v : Nat} (h : c ≤ c') (hv : v ≤ c') (h' : c' ≤ 1000000) : WF (setA A 4 v) c' := by
  obtain ⟨w1, w2, w3, w4, w5, w6, w7, w8, w9, w10, w11, w12, w13, w14⟩ := w
  have e : ∀ i, i ≠ 4 → setA A 4 v i = A i := fun i hi => setA_ne hi
  have ep : ∀ i, aPH (setA A 4 v) i = aPH A i := fun i => by
    unfold aPH; rw [aL_congr (e 0 (by omega)), e _ (by omega), e _ (by omega)]
  refine ⟨?_, ?_, ?_, ?_, ?_, ?_, ?_, ?_, ?_, ?_, ?_, ?_, ?_, h'⟩
  · rw [e 0 (by omega)]; exact w1
  · rw [e 1 (by omega)]; exact w2
  · rw [e 2 (by omega)]; exact w3
  · rw [e 3 (by omega)]; exact w4
  · intro i hi; rw [e _ (by omega)]; exact w5 i hi
  · intro i hi hi2; rw [e 0 (by omega)] at hi; rw [e _ (by omega)]; exact w6 i hi hi2
  · intro i l hi hl; rw [e _ (by omega)]; exact w7 i l hi hl
  · intro i l hi hl hq; rw [e _ (by omega)] at hq ⊢; exact w8 i l hi hl hq
  · intro i hi; rw [e _ (by omega), e _ (by omega)]; exact w9 i hi
  · intro i hi; rw [e _ (by omega), e _ (by omega)]; exact w10 i hi
  · intro i hi; rw [e _ (by omega), ep, e 0 (by omega)]; exact w11 i hi
  · rw [setA_eq]; exact hv
  · intro k hk; rw [e _ (by omega)]; have := w13 k hk; omega
theorem m_copies2 {r r' : Nat} (ho : okI Z r = true) (hl : Z.2.2.1 r = 121) (ho' : okO Z r' 20 = true) (hl' : Z.2.2.1 r' = 121) (hne : r ≠ r') : ∀ (j i fu : Nat), i + j = 121 → j < fu → fX9_copies_2 N Z fu r r' (nI i) (fillA M r' (M.1 r) i) = some ((), fillA M r' (M.1 r) 121) := by
  intro j
  induction j with
  | zero =>
    intro i fu h2 h3
    obtain ⟨fu, rfl⟩ : ∃ q, fu = q + 1 := ⟨fu - 1, by omega⟩
    have h4 : i = 121 := by omega
    subst h4
    rw [fX9_copies_2, if_pos (by rw [i_121, i_le (by omega) (by omega)]; omega)]
  | succ j ih =>
    intro i fu h2 h3
    obtain ⟨fu, rfl⟩ : ∃ q, fu = q + 1 := ⟨fu - 1, by omega⟩
    have hi := ih (i + 1) fu (by omega) (by omega)
    rw [fX9_copies_2, if_neg (by rw [i_121, i_le (by omega) (by omega)]; omega), ck_t ho, hl, hl', ck_t (by rw [i_inB (by omega)]; exact decide_eq_true (by omega)), ck_t ho', ck_t (by rw [i_inB (by omega)]; exact decide_eq_true (by omega)), i_cl (by omega), nI_1, fillA_s (fillA_ne hne)]
    exact hi
theorem m_copies {r r' : Nat} (hN : 5000 ≤ N) (ho : okI Z r = true) (hl : Z.2.2.1 r = 121) (ho' : okO Z r' 20 = true) (hl' : Z.2.2.1 r' = 121) (hne : r ≠ r') : fX9_copies N Z r r' M = some ((), fillA M r' (M.1 r) 121) := by
  have h := m_copies2 (N := N) (M := M) ho hl ho' hl' hne 121 0 N (by omega) (by omega)
  rw [fillA_0] at h
  exact h
theorem RowAt.fill {r r' : Nat} (h : RowAt M r A) : RowAt (fillA M r' (M.1 r) 121) r' A := fun i hi => by rw [fillA_in hi]; exact h i hi
theorem m_rowOf {k : Nat} (h3 : 3 ≤ k) (h5 : k ≤ 5) : fX9_rowOf N Z (nI k) M = some (nI (rwB k), M) := by
  rcases (show k = 3 ∨ k = 4 ∨ k = 5 by omega) with rfl | rfl | rfl <;> rfl
def on117 (a : Nat) : Prop := a = 117
theorem m_does (hN : 5000 ≤ N) (hM : ModAt Z) (hR : RowAt M 117 A) (w : WF A c) (hc : c + 1 ≤ 1000000) {what cls : Nat} {tk : Bool} (ho : OkA A what p l cls tk) :
    ∃ M', fX9_does N Z 116 (nI what) (nI p) (nI l) (if tk then 1 else 0) (nI cls) M = some ((), M') ∧ RowAt M' 117 (doA A what p l cls tk) ∧ Same on117 M M' := by
  have hok := ho
  obtain ⟨hwh, hp, hl1, hl6, ht, hpt, hh, hyd, hcl⟩ := ho
  have h4 := w.1
  have hd := pbl_le A p l
  have hy : ∀ k, k < 6 → A (5 + k) ≤ 1000 + 2 * c := w.2.2.2.2.2.2.2.2.2.2.2.2.1
  have lt : ∀ i, i < 121 → inB (nI i) 121 = true := fun i hi => by rw [i_inB (by omega)]; exact decide_eq_true hi
  have s4 : ∀ {M M' : mM}, Same on117 M M' → ∀ k v, Same on117 M (sI M' 117 k v) := fun h k v => h.trans (Same.put rfl)
  have hv : ∀ x0 : Int32, ((tk = true ∧ x0 = 1) ∨ (tk = false ∧ x0 = -1)) → ∃ M', fX9_does_10 N Z 116 (nI what) (nI p) (nI l) (if tk then 1 else 0) (nI cls) x0 M = some ((), M') ∧ RowAt M' 117 (doA A what p l cls tk) ∧ Same on117 M M' := by
    intro x0 hx
    by_cases k0 : what = 0
    · subst k0
      have hM' := hM
      obtain ⟨o1, ⟨o2, -⟩, ⟨g4, g5, g6⟩, -⟩ := hM
      have y5 : A 5 ≤ 1000 + 2 * c := hy 0 (by omega)
      have y6 : A 6 ≤ 1000 + 2 * c := hy 1 (by omega)
      have hh6 := w.2.2.2.2.1 p (by omega)
      have w1 : WF (setA A 4 (A 4 + 1)) (c + 1) := w.works (by omega) (by have := w.2.2.2.2.2.2.2.2.2.2.2.1; omega) hc
      have w2 := okH_wf (y0 := A 5) (y1 := A 6) w hc hok (by omega) (by omega)
      have R1 : RowAt (sI M 117 4 (nI (A 4 + 1))) 117 (setA A 4 (A 4 + 1)) := hR.set (by omega) _
      have e1 := m_posts (N := N) hN hM' R1 w1
      have e0 : sm (aPH (setA A 4 (A 4 + 1))) (setA A 4 (A 4 + 1) 0) = sm (aPH A) (A 0) := by
        rw [setA_ne (by omega)]
        refine sm_congr (fun i hi => ?_)
        unfold aPH; rw [aL_congr (setA_ne (by omega)), setA_ne (by omega), setA_ne (by omega)]
      rw [e0] at e1
      have R2 : ∀ v, RowAt (sI (sI M 117 4 (nI (A 4 + 1))) 117 (11 + p) (nI v)) 117 (doH A p v (A 5) (A 6)) := fun v i hi => by
        by_cases a1 : i = 11 + p
        · subst a1; rw [sI_same, doH_h]
        · rw [sI_ne _ _ (by omega)]
          by_cases a2 : i = 4
          · subst a2; rw [sI_same, doH_4]
          · rw [sI_ne _ _ (by omega), hR i hi]
            by_cases a3 : i = 5
            · subst a3; rw [doH_5]
            by_cases a4 : i = 6
            · subst a4; rw [doH_6]
            · rw [doH_e a2 a3 a4 a1]
      have e3 : ∀ v B, B = doH A p v (A 5) (A 6) → WF B (c + 1) → fX9_posts N Z 116 (sI (sI M 117 4 (nI (A 4 + 1))) 117 (11 + p) (nI v)) = some (nI (sm (aPH B) (A 0)), sI (sI M 117 4 (nI (A 4 + 1))) 117 (11 + p) (nI v)) := fun v B hB wB => by
        have := m_posts (N := N) hN hM' (hB ▸ R2 v) wB
        rw [show B 0 = A 0 by rw [hB]; exact doH_e (by omega) (by omega) (by omega) (by omega)] at this
        exact this
      have fin : ∀ v S a0 a1 : Nat, fX9_posts N Z 116 (sI (sI M 117 4 (nI (A 4 + 1))) 117 (11 + p) (nI v)) = some (nI S, sI (sI M 117 4 (nI (A 4 + 1))) 117 (11 + p) (nI v)) →
          nI (A (11 + p)) - x0 = nI v → nI (A 5) + (nI (sm (aPH A) (A 0)) - nI S) = nI a0 → nI (A 6) + (2 : Int32) * x0 = nI a1 →
          fX9_does_10 N Z 116 (nI 0) (nI p) (nI l) (if tk then 1 else 0) (nI cls) x0 M = some ((), sI (sI (sI (sI M 117 4 (nI (A 4 + 1))) 117 (11 + p) (nI v)) 117 5 (nI a0)) 117 6 (nI a1)) := by
        intro v S a0 a1 q0 q1 q2 q3
        unfold fX9_does_10
        rw [ck_t o1, o2, bnd1_some, ck_t g5, g6, ck_t (by decide), ck_t g4, if_pos (show nI 0 = 0 from rfl), cl_4, cl_5, cl_6, hR 4 (by omega), nI_1, e1, bnd2_some, i_11, nI_add, ck_t (lt _ (by omega)), ck_t (by decide), i_cl (by omega), sI_ne M _ (show ¬ (117 = 117 ∧ 11 + p = 4) by omega), hR _ (by omega), q1, q0, bnd2_some, ck_t (by decide),
          sI_ne _ _ (show ¬ (117 = 117 ∧ 5 = 11 + p) by omega), sI_ne _ _ (show ¬ (117 = 117 ∧ (5 : Nat) = 4) by omega), hR 5 (by omega), q2, sI_ne _ _ (show ¬ (117 = 117 ∧ (6 : Nat) = 5) by omega), sI_ne _ _ (show ¬ (117 = 117 ∧ 6 = 11 + p) by omega), sI_ne _ _ (show ¬ (117 = 117 ∧ (6 : Nat) = 4) by omega), hR 6 (by omega), q3]
      have R3 : ∀ v a0 a1, RowAt (sI (sI (sI (sI M 117 4 (nI (A 4 + 1))) 117 (11 + p) (nI v)) 117 5 (nI a0)) 117 6 (nI a1)) 117 (doH A p v a0 a1) := fun v a0 a1 => by
        have h := (((hR.set (k := 4) (by omega) (A 4 + 1)).set (k := 11 + p) (by omega) v).set (k := 5) (by omega) a0).set (k := 6) (by omega) a1
        unfold doH
        rw [setA_comm (show (6 : Nat) ≠ 4 by omega), setA_comm (show (5 : Nat) ≠ 4 by omega), setA_comm (show 11 + p ≠ 4 by omega)]
        exact h
      have sam : ∀ v a0 a1, Same on117 M (sI (sI (sI (sI M 117 4 (nI (A 4 + 1))) 117 (11 + p) (nI v)) 117 5 (nI a0)) 117 6 (nI a1)) := fun v a0 a1 => s4 (s4 (s4 (s4 Same.rfl _ _) _ _) _ _) _ _
      unfold doA
      rw [if_pos rfl]
      rcases hx with ⟨rfl, rfl⟩ | ⟨rfl, rfl⟩
      · have h5 := (ht rfl rfl).1
        simp only [if_true] at w2 ⊢
        have hS := posts_down (y0 := A 5) (y1 := A 6) w hp (by omega)
        exact ⟨_, fin (A (11 + p) - 1) _ (A 5 + pbl A p l) (A 6 + 2) (e3 _ _ rfl w2) (i_sub (b := 1) (by omega)) (by rw [i_sub (by omega), nI_add, hS, h5]; congr 2; omega) (nI_add _ 2), R3 _ _ _, sam _ _ _⟩
      · have h5 := hpt rfl rfl
        simp only [Bool.false_eq_true, if_false] at w2 ⊢
        have hS := posts_up (y0 := A 5) (y1 := A 6) w hp
        rw [← h5.1] at w2 hS
        exact ⟨_, fin (A (11 + p) + 1) _ (A 5 - pbl A p l) (A 6 - 2) (by rw [← h5.1]; exact e3 _ _ rfl w2) (by rw [Int32.sub_eq_add_neg, show -(-1 : Int32) = 1 from rfl]; exact nI_add _ 1) (by rw [hS, sub_posts, add_neg _ _ (by omega)]) (add_neg _ 2 (by omega)), R3 _ _ _, sam _ _ _⟩
    · have hs := hh k0
      have yk := hy what (by omega)
      obtain ⟨o1, ⟨o2, -⟩, ⟨g4, g5, g6⟩, -⟩ := hM
      have hq : ∀ y, (tk = true → y = A (5 + what) + 1) → (tk = false → y = A (5 + what) - 1) → nI (A (5 + what)) + x0 = nI y := fun y t1 t2 => by
        rcases hx with ⟨q, rfl⟩ | ⟨q, rfl⟩
        · rw [t1 q]; exact nI_add _ 1
        · rw [t2 q]; exact add_neg _ 1 (hyd k0 q)
      have hq' := hq (if tk then A (5 + what) + 1 else A (5 + what) - 1) (fun e => by rw [e]; rfl) (fun e => by rw [e]; rfl)
      unfold doA
      rw [if_neg k0]
      by_cases k2 : what = 2
      · subst k2
        rw [if_pos rfl]
        refine ⟨sI (sI (sI M 117 4 (nI (A 4 + 1))) 117 7 (nI (if tk then A 7 + 1 else A 7 - 1))) 117 (21 + 7 * p + l) (nI (if tk then 0 else cls)), ?_, ?_, s4 (s4 (s4 Same.rfl _ _) _ _) _ _⟩
        · unfold fX9_does_10
          rw [ck_t o1, o2, bnd1_some, ck_t g5, g6, ck_t (by decide), ck_t g4, if_neg (show ¬ nI 2 = 0 by decide), ck_t (by decide), if_pos (show nI 2 = 2 from rfl), cl_4, hR 4 (by omega), nI_1, show ((5 : Int32) + nI 2).toNatClampNeg = 5 + 2 by decide, sI_ne M _ (show ¬ (117 = 117 ∧ 5 + 2 = 4) by omega), hR (5 + 2) (by omega), hq', i_21, i_7, pk_mul, nI_add, nI_add, i_cl (by omega)]
          cases tk with
          | true => rw [if_neg (by decide), ck_t (lt _ (by omega))]; rfl
          | false => rw [if_pos (by decide), ck_t (lt _ (by omega))]; rfl
        · have h := ((hR.set (k := 4) (by omega) (A 4 + 1)).set (k := 7) (by omega) (if tk then A 7 + 1 else A 7 - 1)).set (k := 21 + 7 * p + l) (by omega) (if tk then 0 else cls)
          unfold doD
          rw [setA_comm (show (7 : Nat) ≠ 4 by omega), setA_comm (show 21 + 7 * p + l ≠ 4 by omega), setA_comm (show 21 + 7 * p + l ≠ 7 by omega)]
          exact h
      · rw [if_neg k2]
        have hr := rwB_cases (k := what) (by omega) (by omega)
        refine ⟨sI (sI (sI M 117 4 (nI (A 4 + 1))) 117 (5 + what) (nI (if tk then A (5 + what) + 1 else A (5 + what) - 1))) 117 (rwB what + p) (nI (A (rwB what + p) ^^^ 2 ^ l)), ?_, ?_, s4 (s4 (s4 Same.rfl _ _) _ _) _ _⟩
        · unfold fX9_does_10
          rw [ck_t o1, o2, bnd1_some, ck_t g5, g6, ck_t (by decide), ck_t g4, if_neg (by rw [i_0, i_eq (by omega) (by omega)]; exact k0), i_5, nI_add, ck_t (lt _ (by omega)), if_neg (by rw [i_2, i_eq (by omega) (by omega)]; exact k2), cl_4, hR 4 (by omega), nI_1, i_cl (by omega), sI_ne M _ (show ¬ (117 = 117 ∧ 5 + what = 4) by omega), hR (5 + what) (by omega), hq', m_rowOf (by omega) (by omega), bnd2_some, nI_add, ck_t (lt _ (by omega)), i_cl (by omega),
            sI_ne _ _ (show ¬ (117 = 117 ∧ rwB what + p = 5 + what) by omega), sI_ne _ _ (show ¬ (117 = 117 ∧ rwB what + p = 4) by omega), hR _ (by omega), bit_shl (by omega), nI_xor]
        · have h := ((hR.set (k := 4) (by omega) (A 4 + 1)).set (k := 5 + what) (by omega) (if tk then A (5 + what) + 1 else A (5 + what) - 1)).set (k := rwB what + p) (by omega) (A (rwB what + p) ^^^ 2 ^ l)
          unfold doS
          rw [setA_comm (show 5 + what ≠ 4 by omega), setA_comm (show rwB what + p ≠ 4 by omega), setA_comm (show rwB what + p ≠ 5 + what by omega)]
          exact h
  unfold fX9_does
  cases tk with
  | true => rw [if_neg (by decide)]; exact hv 1 (Or.inl ⟨rfl, rfl⟩)
  | false => rw [if_pos (by decide)]; exact hv (-1) (Or.inr ⟨rfl, rfl⟩)
end MW
