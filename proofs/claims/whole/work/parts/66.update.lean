/-! ===== LAYER 3: dismantling, the class ===== -/
theorem divI : ∀ n, n < 11 → ∀ k, k < 301 → 0 < n → nI k / nI n = nI (k / n) ∧ nI k - nI k / nI n * nI n = nI (k % n) := by decide +kernel
def fillM (M : mM) (w : Nat) (a b l t : Int32) : mM := sI (sI (sI (sI (sI M w 0 a) w 1 b) w 2 l) w 3 (1 : Int32)) w 4 t
theorem fillM_fr {M : mM} {w : Nat} {a b l t : Int32} : Fr (fun x _ => x = w) M (fillM M w a b l t) :=
  ((((Fr.put (P := fun x _ => x = w) rfl).trans (Fr.put rfl)).trans (Fr.put rfl)).trans (Fr.put rfl)).trans (Fr.put rfl)
theorem fillM_job {M : mM} {w what p : Nat} {x : Int32} {tk : Bool} : JobX (fillM M w (nI what) (nI p) x (if tk then 1 else 0)) w what p x 1 tk := by
  unfold fillM
  refine ⟨?_, ?_, ?_, ?_, ?_⟩
  · rw [sI_ne _ _ (by omega), sI_ne _ _ (by omega), sI_ne _ _ (by omega), sI_ne _ _ (by omega), sI_same]
  · rw [sI_ne _ _ (by omega), sI_ne _ _ (by omega), sI_ne _ _ (by omega), sI_same]
  · rw [sI_ne _ _ (by omega), sI_ne _ _ (by omega), sI_same]
  · rw [sI_ne _ _ (by omega), sI_same]; rfl
  · rw [sI_same]
theorem k_fill {N : Nat} {Z : mZ} {M : mM} {w : Nat} (h : okO Z w 7 = true) (a b l : Int32) (tk : Bool) : fX7_fill N Z w a b l (if tk then 1 else 0) M = some ((), fillM M w a b l (if tk then 1 else 0)) := by
  unfold fX7_fill
  rw [ck_t h, ck_t (isB_ite tk)]; rfl
def inR (lo hi x : Nat) : Prop := lo ≤ x ∧ x ≤ hi
theorem Fr.rng {P : Nat → Nat → Prop} {M M' : mM} {lo hi : Nat} (h : Fr P M M') (hs : ∀ a j, P a j → lo ≤ a ∧ a ≤ hi) : Same (inR lo hi) M M' := h.same (S := inR lo hi) hs
def onF (x j : Nat) : Prop := (x = 106 ∧ j < 2) ∨ inP 107 x ∨ x = 113
def DmAt (Z : mZ) : Prop := okO Z 93 1 = true ∧ Z.2.2.2 93 3 = some 94 ∧ Z.2.2.2 93 4 = some 95 ∧ Z.2.2.2 93 5 = some 101 ∧ Z.2.2.2 93 6 = some 106 ∧ Z.2.2.2 93 7 = some 113 ∧ ArrAt' Z 94 900 ∧ PlanAt Z 95 ∧ WaysAt Z 101 ∧ JudgeAt Z 106 ∧ okO Z 113 7 = true
/-- the parts that were kept -/
def Wrote (M M' : mM) (r n : Nat) (q : Nat × Nat × Nat) : Prop := M'.1 r (3 * n) = nI q.1 ∧ M'.1 r (3 * n + 1) = nI q.2.1 ∧ M'.1 r (3 * n + 2) = nI q.2.2 ∧ ∀ i, i < 3 * n → M'.1 r i = M.1 r i
section DU
variable {N : Nat} {Z : mZ} {B : Row} {c n : Nat}
theorem d_107 (hN : 5000 ≤ N) (hD : DmAt Z) (w : WF B c) (hc : c + 1 ≤ 1000000) {M : mM} (hR : RelP M 95 B) (hy : WaysR M 101 B) (hn : M.1 93 0 = nI n) (hn3 : n < 300) {what p l : Nat} (hk : what = 0 ∨ (2 ≤ what ∧ what ≤ 5)) (hp : p < B 0) (hl1 : 1 ≤ l) (hl6 : l ≤ 6) (h0 : what = 0 → B (11 + p) = l) :
    (jst B what p l 1 true ≠ none → ∃ M', fX1_isDone_107 N Z 93 (nI p) (nI what) (nI l) (1 : Int32) M = some (0, M') ∧ Fr onF M M') ∧
    (jst B what p l 1 true = none → ∃ M', fX1_isDone_107 N Z 93 (nI p) (nI what) (nI l) (1 : Int32) M = some (1, M') ∧ Same (inR 94 113) M M' ∧ RelP M' 95 (doA B what p l 1 true) ∧ Wrote M M' 94 n (what, p, l)) := by
  obtain ⟨o93, r3, r4, r5, r6, r7, ⟨a4, a5, a6⟩, p95, y101, j106, o113⟩ := hD
  have h1 := w.1
  have f1 : Fr onF M (fillM M 113 (nI what) (nI p) (nI l) 1) := fillM_fr.mono (fun x j h => Or.inr (Or.inr h))
  have J1 : JobX (fillM M 113 (nI what) (nI p) (nI l) 1) 113 what p (nI l) 1 true := fillM_job (tk := true)
  have R1 : RelP (fillM M 113 (nI what) (nI p) (nI l) 1) 95 B := hR.fr fillM_fr (fun a j h1 h2 h3 => by omega)
  have Y1 : WaysR (fillM M 113 (nI what) (nI p) (nI l) 1) 101 B := hy.fr fillM_fr (fun a j h1 h2 h3 => by omega)
  have hlv : lvA B what p (nI l).toNatClampNeg true = l := by
    unfold lvA
    rw [i_cl (by omega)]
    by_cases q : what = 0
    · rw [if_pos q, if_pos rfl]; exact h0 q
    · rw [if_neg q]
  obtain ⟨M2, e2, f2, q2, ok2⟩ := j_examine (N := N) hN j106 p95 y101 o113 (by omega) (by omega) (by omega) (by omega) (by omega) R1 Y1 w hc J1 hk hp (fun _ h => Bool.noConfusion h)
  rw [hlv] at q2 ok2
  have ef : fX7_fill N Z 113 (nI what) (nI p) (nI l) (1 : Int32) M = some ((), fillM M 113 (nI what) (nI p) (nI l) 1) := k_fill o113 _ _ _ true
  have f2' : Fr onF M M2 := f1.trans (f2.mono (fun x j h => by
    rcases h with h | h | h
    · exact Or.inl h
    · exact Or.inr (Or.inl h)
    · exact Or.inr (Or.inr h.1)))
  have head : ∀ res, (if (M2.1 106 0) = 0 then ck (okO Z 95 4) (bnd2 (fX4_carryOut N Z 95 113 M2) (fun _ M27 => bnd1 (Z.2.2.2 93 3) (fun c28 => bnd2 (fX8_write N Z c28 ((M27.1 93 0) * (3 : Int32)) (nI what) M27) (fun _ M29 => bnd2 (fX8_write N Z c28 (((M29.1 93 0) * (3 : Int32)) + (1 : Int32)) (nI p) M29) (fun _ M30 => bnd2 (fX8_write N Z c28 (((M30.1 93 0) * (3 : Int32)) + (2 : Int32)) (nI l) M30) (fun _ M31 => some ((1 : Int32), M31))))))) else some ((0 : Int32), M2)) = some res → fX1_isDone_107 N Z 93 (nI p) (nI what) (nI l) (1 : Int32) M = some res := fun res h => by
    unfold fX1_isDone_107
    rw [if_neg (by decide), ck_t o93, r7, bnd1_some, ck_t o113, ef, bnd2_some, r6, bnd1_some, r4, bnd1_some, r5, bnd1_some, ck_t j106.1, e2, bnd2_some]
    exact h
  constructor
  · intro hj
    refine ⟨M2, head _ ?_, f2'⟩
    rw [if_neg (fun e => hj (rN_zero.1 (q2.1 ▸ e)))]
  · intro hj
    obtain ⟨j2, o2⟩ := ok2 hj
    have R2 : RelP M2 95 B := hR.fr f2' (fun a j h1 h2 h3 => by
      rcases h3 with h3 | h3 | h3
      · omega
      · have := h3.1; omega
      · omega)
    obtain ⟨M3, e3, R3, s3⟩ := k_carryOut (N := N) p95 o113 (by omega) R2 w j2 o2
    have n3 : M3.1 93 0 = nI n := by
      rw [s3.1 93 (fun h => by have := h.1; omega), f2'.1 93 0 (fun h => by
        rcases h with h | h | h
        · omega
        · have := h.1; omega
        · omega)]
      exact hn
    have p3 : ∀ i, M3.1 94 i = M.1 94 i := fun i => by
      rw [s3.1 94 (fun h => by have := h.1; omega), f2'.1 94 i (fun h => by
        rcases h with h | h | h
        · omega
        · have := h.1; omega
        · omega)]
    have z : M2.1 106 0 = 0 := q2.1.trans (rN_zero.2 hj)
    refine ⟨sI (sI (sI M3 94 (3 * n) (nI what)) 94 (3 * n + 1) (nI p)) 94 (3 * n + 2) (nI l), head _ ?_, ?_, ?_, ?_, ?_, ?_, ?_⟩
    · rw [if_pos z, ck_t p95.1, e3, bnd2_some, r3, bnd1_some, n3, i_3, pk_mul, Nat.mul_comm n 3, k_write a4 (by omega) (by omega), bnd2_some, sI_ne M3 _ (show ¬ ((93 : Nat) = 94 ∧ (0 : Nat) = 3 * n) by omega), n3, pk_mul, Nat.mul_comm n 3, nI_1, k_write a4 (by omega) (by omega), bnd2_some, sI_ne _ _ (show ¬ ((93 : Nat) = 94 ∧ (0 : Nat) = 3 * n + 1) by omega), sI_ne M3 _ (show ¬ ((93 : Nat) = 94 ∧ (0 : Nat) = 3 * n) by omega), n3, pk_mul, Nat.mul_comm n 3, i_2, nI_add, k_write a4 (by omega) (by omega), bnd2_some]
    · refine (((f2'.rng (lo := 94) (hi := 113) (fun a j h => ?_)).trans (s3.mono (fun a h => ⟨by have := h.1; omega, by have := h.2; omega⟩))).trans (Same.put ⟨by omega, by omega⟩)).trans (Same.put ⟨by omega, by omega⟩) |>.trans (Same.put ⟨by omega, by omega⟩)
      rcases h with h | h | h
      · omega
      · have := h.1; have := h.2; omega
      · omega
    · exact ((R3.same (Same.put (S := fun x => x = 94) rfl) (fun a h1 h2 h3 => by omega)).same (Same.put (S := fun x => x = 94) rfl) (fun a h1 h2 h3 => by omega)).same (Same.put (S := fun x => x = 94) rfl) (fun a h1 h2 h3 => by omega)
    · rw [sI_ne _ _ (by omega), sI_ne _ _ (by omega), sI_same]
    · rw [sI_ne _ _ (by omega), sI_same]
    · rw [sI_same]
    · intro i hi
      rw [sI_ne _ _ (by omega), sI_ne _ _ (by omega), sI_ne _ _ (by omega)]; exact p3 i
theorem ord_at {M : mM} (hs : Stat Z M) {s : Nat} (h : s < 5) : M.1 4 s = nI (oKd s) := by
  obtain ⟨-, -, -, -, h0, h1, h2, h3, h4⟩ := hs
  rcases (show s = 0 ∨ s = 1 ∨ s = 2 ∨ s = 3 ∨ s = 4 by omega) with rfl | rfl | rfl | rfl | rfl
  · exact h0
  · exact h1
  · exact h2
  · exact h3
  · exact h4
theorem d_isDone (hN : 5000 ≤ N) (hD : DmAt Z) (w : WF B c) (hc : c + 1 ≤ 1000000) {M : mM} (hs : Stat Z M) (hR : RelP M 95 B) (hy : WaysR M 101 B) (hn : M.1 93 0 = nI n) (hn3 : n < 300) {k : Nat} (hk : k < 30 * B 0) :
    (sucA B k = false → ∃ M', fX1_isDone N Z 93 (nI k) M = some (0, M') ∧ Fr onF M M') ∧
    (sucA B k = true → ∃ M', fX1_isDone N Z 93 (nI k) M = some (1, M') ∧ Same (inR 94 113) M M' ∧ RelP M' 95 (takeA B k) ∧ Wrote M M' 94 n (cKd B k, cPl B k, cLv B k)) := by
  have h1 := w.1
  have hp := cPl_lt (k := k) w
  have hl := cLv_le w hk
  have hkd := cKd_k B k
  have hq : k / B 0 < 30 := Nat.div_lt_of_lt_mul (by rw [Nat.mul_comm]; exact hk)
  have d1 := divI (B 0) (by omega) k (by omega) (by omega)
  have d2 := divI 5 (by omega) (k / B 0) (by omega) (by omega)
  have e107 := d_107 hN hD w hc hR hy hn hn3 hkd hp hl.1 hl.2
  have f107 : fX1_isDone_107 N Z 93 (nI (cPl B k)) (nI (cKd B k)) (nI (cLv B k)) (0 : Int32) M = some (0, M) := by unfold fX1_isDone_107; rw [if_pos rfl]
  obtain ⟨o93, r3, r4, r5, r6, r7, -, p95, -⟩ := hD
  have e6 : (6 : Int32) - nI (k / B 0 / 5) = nI (cLv B k) := by rw [i_6, i_sub (by omega)]; rfl
  have oat : M.1 4 (k / B 0 % 5) = nI (cKd B k) := ord_at hs (Nat.mod_lt _ (by omega))
  have e4 := fun (q2 : 2 ≤ cKd B k) (q5 : cKd B k ≤ 5) => k_has (N := N) p95 hR w q2 q5 (p := cPl B k) (by omega) (cLv B k) (by omega)
  have head : ∀ res, (if nI (cKd B k) = 0 then (if nI (B (11 + cPl B k)) = nI (cLv B k) then fX1_isDone_107 N Z 93 (nI (cPl B k)) (nI (cKd B k)) (nI (cLv B k)) (1 : Int32) M else fX1_isDone_107 N Z 93 (nI (cPl B k)) (nI (cKd B k)) (nI (cLv B k)) (0 : Int32) M) else bnd2 (fX4_has N Z 95 (nI (cKd B k)) (nI (cPl B k)) (nI (cLv B k)) M) (fun r32 M32 => fX1_isDone_107 N Z 93 (nI (cPl B k)) (nI (cKd B k)) (nI (cLv B k)) r32 M32)) = some res → fX1_isDone N Z 93 (nI k) M = some res := fun res h => by
    have oP := p95
    obtain ⟨a1, a2, -, -, -, -, ⟨-, b5, b6⟩, -⟩ := p95
    have hr := hR.2.2.1 (cPl B k) (by omega)
    have hat := k_at (N := N) (M := M) b5 (show cPl B k < Z.2.2.1 (95 + 1) by omega) (by omega)
    have hat4 := k_at (N := N) (Z := Z) (M := M) (r := 4) (i := k / B 0 % 5) (okI_lo (by omega)) (by rw [hs.1.2.2.2]; exact Nat.mod_lt _ (by omega)) (by rw [hs.1.2.2.2]; omega)
    have d5 : nI (k / B 0) - nI (k / B 0 / 5) * nI 5 = nI (k / B 0 % 5) := by rw [← d2.1]; exact d2.2
    have dm2 : nI k - nI (k / B 0) * nI (B 0) = nI (cPl B k) := by rw [← d1.1]; exact d1.2
    have nz : ¬ (nI (B 0) = 0) := by rw [i_0, i_eq (by omega) (by omega)]; omega
    unfold fX1_isDone
    rw [ck_t (okI_lo (by omega)), hs.1.2.2.2, i_ofNat, if_neg (by decide), ck_t o93, r4, bnd1_some, ck_t a1, hR.1, if_neg nz, ck_t (decide_eq_true nz), ck_t (by decide), d1.1, d2.1, d5, hat4, bnd2_some, oat, hR.1, ck_t (decide_eq_true nz), d1.1, d2.1, e6, dm2]
    by_cases q : nI (cKd B k) = 0
    · rw [if_pos q] at h ⊢
      rw [a2, bnd1_some, hat, bnd2_some, hr]; exact h
    · rw [if_neg q] at h ⊢; exact h
  have iz : (nI (cKd B k) = 0) ↔ cKd B k = 0 := by rw [i_0, i_eq (by omega) (by omega)]
  have hb := w.2.2.2.2.1 (cPl B k) (by omega)
  by_cases q0 : cKd B k = 0
  · by_cases qh : B (11 + cPl B k) = cLv B k
    · have h' := e107 (fun _ => qh)
      constructor
      · intro hf
        obtain ⟨M', x1, x2⟩ := h'.1 (fun hj => by
          have := of_decide_eq_false hf
          exact this ⟨Or.inr qh, hj⟩)
        exact ⟨M', head _ (by rw [if_pos (iz.2 q0), if_pos (by rw [qh])]; exact x1), x2⟩
      · intro ht
        obtain ⟨M', x1, x2, x3, x4⟩ := h'.2 (of_decide_eq_true ht).2
        exact ⟨M', head _ (by rw [if_pos (iz.2 q0), if_pos (by rw [qh])]; exact x1), x2, x3, x4⟩
    · constructor
      · intro _
        exact ⟨M, head _ (by rw [if_pos (iz.2 q0), if_neg (by rw [i_eq (by omega) (by omega)]; exact qh)]; exact f107), Fr.rfl⟩
      · intro ht
        have := (of_decide_eq_true ht).1
        exact absurd this (fun h => h.elim (fun h => h q0) qh)
  · have h4 := e4 (by omega) (by omega)
    have h' := e107 (fun h => absurd h q0)
    cases hx : aHas B (cKd B k) (cPl B k) (cLv B k) with
    | false =>
      rw [hx] at h4
      constructor
      · intro _
        exact ⟨M, head _ (by rw [if_neg (fun e => q0 (iz.1 e)), h4, bnd2_some]; exact f107), Fr.rfl⟩
      · intro ht
        have := sucA_ok w ht
        have h2 := (this.2.2.2.2.2.2.1 q0).1
        rw [hx] at h2; cases h2
    | true =>
      rw [hx] at h4
      constructor
      · intro hf
        obtain ⟨M', x1, x2⟩ := h'.1 (fun hj => by
          have := of_decide_eq_false hf
          exact this ⟨Or.inl q0, hj⟩)
        exact ⟨M', head _ (by rw [if_neg (fun e => q0 (iz.1 e)), h4, bnd2_some]; exact x1), x2⟩
      · intro ht
        obtain ⟨M', x1, x2, x3, x4⟩ := h'.2 (of_decide_eq_true ht).2
        exact ⟨M', head _ (by rw [if_neg (fun e => q0 (iz.1 e)), h4, bnd2_some]; exact x1), x2, x3, x4⟩
theorem onF_in {x j : Nat} (h : onF x j) : 106 ≤ x ∧ x ≤ 113 := by
  rcases h with h | h | h
  · omega
  · have := h.1; have := h.2; omega
  · omega
theorem d_60 (hN : 5000 ≤ N) (hD : DmAt Z) (w : WF B c) (hc : c + 1 ≤ 1000000) (hn3 : n < 300) (K : Nat → Int32 → mM → Option (Unit × mM)) : ∀ (j k fu : Nat) (M : mM), k + j = 30 * B 0 → j < fu → Stat Z M → RelP M 95 B → WaysR M 101 B → M.1 93 0 = nI n →
    (ffr (sucA B) j k = none → ∃ M', fX1_update_60 N Z K fu 93 (nI (30 * B 0)) (nI k) M = fX1_update_79 N Z K 93 (nI (30 * B 0)) (nI (30 * B 0)) M' ∧ Fr onF M M') ∧
    (∀ k', ffr (sucA B) j k = some k' → ∃ M', fX1_update_60 N Z K fu 93 (nI (30 * B 0)) (nI k) M = fX1_update_79 N Z K 93 (nI (30 * B 0)) (nI k') M' ∧ Same (inR 94 113) M M' ∧ RelP M' 95 (takeA B k') ∧ Wrote M M' 94 n (cKd B k', cPl B k', cLv B k')) := by
  have h1 := w.1
  intro j
  induction j with
  | zero =>
    intro k fu M h2 h3 hs hR hy hn
    obtain ⟨fu, rfl⟩ : ∃ q, fu = q + 1 := ⟨fu - 1, by omega⟩
    have hk : k = 30 * B 0 := by omega
    refine ⟨fun _ => ⟨M, ?_, Fr.rfl⟩, fun k' hk' => by cases hk'⟩
    rw [fX1_update_60, if_pos (by rw [i_le (by omega) (by omega)]; omega), hk]
  | succ j ih =>
    intro k fu M h2 h3 hs hR hy hn
    obtain ⟨fu, rfl⟩ : ∃ q, fu = q + 1 := ⟨fu - 1, by omega⟩
    have hd := d_isDone (k := k) hN hD w hc hs hR hy hn hn3 (by omega)
    have ho := hD.1
    cases q : sucA B k with
    | false =>
      obtain ⟨M1, e1, f1⟩ := hd.1 q
      have i1 := ih (k + 1) fu M1 (by omega) (by omega) (hs.same (f1.rng (lo := 106) (hi := 113) (fun a j h => onF_in h)) (fun a ha h => by have := h.1; omega)) (hR.fr f1 (fun a j h1 h2 h3 => by have := onF_in h3; omega)) (hy.fr f1 (fun a j h1 h2 h3 => by have := onF_in h3; omega)) (by rw [f1.1 93 0 (fun h => by have := onF_in h; omega)]; exact hn)
      have st : fX1_update_60 N Z K (fu + 1) 93 (nI (30 * B 0)) (nI k) M = fX1_update_60 N Z K fu 93 (nI (30 * B 0)) (nI (k + 1)) M1 := by
        rw [fX1_update_60, if_neg (by rw [i_le (by omega) (by omega)]; omega), ck_t ho, e1, bnd2_some, if_pos rfl, nI_1]
      have sf : ffr (sucA B) (j + 1) k = ffr (sucA B) j (k + 1) := by rw [ffr, q, if_neg (by decide)]
      rw [sf, st]
      constructor
      · intro h
        obtain ⟨M', x1, x2⟩ := i1.1 h
        exact ⟨M', x1, f1.trans x2⟩
      · intro k' h
        obtain ⟨M', x1, x2, x3, x4⟩ := i1.2 k' h
        have s1 : Same (inR 94 113) M M1 := f1.rng (fun a j h => by have := onF_in h; omega)
        exact ⟨M', x1, s1.trans x2, x3, x4.1, x4.2.1, x4.2.2.1, fun i hi => by rw [x4.2.2.2 i hi]; exact f1.1 94 i (fun h => by have := onF_in h; omega)⟩
    | true =>
      obtain ⟨M1, e1, s1, R1, w1⟩ := hd.2 q
      have sf : ffr (sucA B) (j + 1) k = some k := by rw [ffr, q, if_pos rfl]
      rw [sf]
      refine ⟨fun h => (by cases h), fun k' h => ?_⟩
      cases h
      refine ⟨M1, ?_, s1, R1, w1⟩
      rw [fX1_update_60, if_neg (by rw [i_le (by omega) (by omega)]; omega), ck_t ho, e1, bnd2_some, if_neg (by decide)]
/-- what is kept of the dismantling, from the n-th work on -/
def KeptL (M : mM) (r n : Nat) (L : List (Nat × Nat × Nat)) : Prop := ∀ i q, L[i]? = some q → M.1 r (3 * (n + i)) = nI q.1 ∧ M.1 r (3 * (n + i) + 1) = nI q.2.1 ∧ M.1 r (3 * (n + i) + 2) = nI q.2.2
theorem KeptL.cons {M0 M1 M' : mM} {r n : Nat} {q : Nat × Nat × Nat} {L : List (Nat × Nat × Nat)} (h : KeptL M' r (n + 1) L) (hw : Wrote M0 M1 r n q) (hk : ∀ i, i < 3 * (n + 1) → M'.1 r i = M1.1 r i) : KeptL M' r n (q :: L) := by
  intro i x hx
  cases i with
  | zero =>
    rw [List.getElem?_cons_zero] at hx
    cases hx
    rw [Nat.add_zero, hk _ (by omega), hk _ (by omega), hk _ (by omega)]
    exact ⟨hw.1, hw.2.1, hw.2.2.1⟩
  | succ i =>
    rw [List.getElem?_cons_succ] at hx
    have := h i x hx
    rw [show n + (i + 1) = n + 1 + i by omega]
    exact this
def cplI (A : Row) : Int32 := if aPieces A 1 = 0 then 1 else 0
theorem d_79 (hN : 5000 ≤ N) (hD : DmAt Z) (w : WF B c) (K : Nat → Int32 → mM → Option (Unit × mM)) {M : mM} (hR : RelP M 95 B) (v : Int32) : fX1_update_79 N Z K 93 v v M = some ((), sI (sI M 93 1 (cplI B)) 93 2 1) := by
  obtain ⟨o93, r3, r4, r5, r6, r7, -, p95, -⟩ := hD
  have e : fX4_piecesPlaced N Z 95 (1 : Int32) M = some (nI (aPieces B 1), M) := k_pieces (k := 1) hN p95 hR w (by omega)
  have hpl : aPieces B 1 ≤ B 0 * 12 := sm_le (fun p hp => by
    have a2 := w.2.2.2.2.1 p (by have := w.1; omega)
    rw [if_neg (by omega), if_pos rfl]; omega)
  have h1 := w.1
  unfold fX1_update_79 cplI
  rw [if_pos rfl, ck_t o93, r4, bnd1_some, ck_t p95.1, e, bnd2_some]
  by_cases q : aPieces B 1 = 0
  · rw [if_pos (by rw [q]; rfl), if_pos q]
  · rw [if_neg (by rw [i_0, i_eq (by omega) (by omega)]; exact q), if_neg q]
theorem d_37 (hN : 5000 ≤ N) (hD : DmAt Z) (C : Nat) : ∀ (j n fu : Nat) (B : Row) (c : Nat) (M : mM), n + j = 300 → j < fu → WF B c → c + j ≤ 1000000 → 30 * B 0 = C → Stat Z M → RelP M 95 B → M.1 93 0 = nI n →
    ∃ M', fX1_update_37 N Z fu 93 (nI C) M = some ((), M') ∧ Same (inR 93 113) M M' ∧ M'.1 93 0 = nI (n + (dsL j B).length) ∧ M'.1 93 1 = cplI (dsR j B) ∧ M'.1 93 2 = 1 ∧ (∀ i, i < 3 * n → M'.1 94 i = M.1 94 i) ∧ KeptL M' 94 n (dsL j B) := by
  have D := hD
  obtain ⟨o93, r3, r4, r5, r6, r7, -, p95, y101, -⟩ := hD
  have fin : ∀ (B : Row) (M : mM), Same (inR 93 113) M (sI (sI M 93 1 (cplI B)) 93 2 1) := fun B M => (Same.put (S := inR 93 113) ⟨by omega, by omega⟩).trans (Same.put ⟨by omega, by omega⟩)
  intro j
  induction j with
  | zero =>
    intro n fu B c M h2 h3 w hc hC hs hR hn
    obtain ⟨fu, rfl⟩ : ∃ q, fu = q + 1 := ⟨fu - 1, by omega⟩
    have e79 := d_79 (M := M) hN D w (fun _ _ _ => none) hR 0
    refine ⟨sI (sI M 93 1 (cplI B)) 93 2 1, ?_, fin B M, ?_, ?_, ?_, ?_, ?_⟩
    · unfold fX1_update_79 at e79
      rw [if_pos rfl, ck_t o93] at e79
      rw [fX1_update_37, ck_t o93, hn, if_pos (by rw [i_300, i_le (by omega) (by omega)]; omega)]
      exact e79
    · rw [sI_ne _ _ (by omega), sI_ne _ _ (by omega), hn]; rfl
    · rw [sI_ne _ _ (by omega), sI_same]; rfl
    · rw [sI_same]
    · intro i hi; rw [sI_ne _ _ (by omega), sI_ne _ _ (by omega)]
    · intro i q hq; cases hq
  | succ j ih =>
    intro n fu B c M h2 h3 w hc hC hs hR hn
    obtain ⟨fu, rfl⟩ : ∃ q, fu = q + 1 := ⟨fu - 1, by omega⟩
    have h1 := w.1
    obtain ⟨M1, e1, s1, Y1, -⟩ := w_explore (N := N) y101 p95 (by omega) w hN hR
    have in1 : ∀ a, inW 101 a → inR 94 113 a := fun a h => ⟨by have := h.1; omega, by have := h.2; omega⟩
    have s1' : Same (inR 94 113) M M1 := s1.mono in1
    have R1 : RelP M1 95 B := hR.same s1 (fun a h1 h2 h3 => by have := h3.1; omega)
    have S1 : Stat Z M1 := hs.same s1 (fun a ha h => by have := h.1; omega)
    have n1 : M1.1 93 0 = nI n := by rw [s1.1 93 (fun h => by have := h.1; omega)]; exact hn
    have k1 : ∀ i, M1.1 94 i = M.1 94 i := fun i => by rw [s1.1 94 (fun h => by have := h.1; omega)]
    have d := d_60 (N := N) hN D w (by omega) (show n < 300 by omega) (fun w0 w2 M9 => fX1_update_37 N Z fu w0 w2 M9) (30 * B 0) 0 N M1 (by omega) (by omega) S1 R1 Y1 n1
    have st : fX1_update_37 N Z (fu + 1) 93 (nI C) M = fX1_update_60 N Z (fun w0 w2 M9 => fX1_update_37 N Z fu w0 w2 M9) N 93 (nI (30 * B 0)) (nI 0) M1 := by
      rw [fX1_update_37, ck_t o93, hn, if_neg (by rw [i_300, i_le (by omega) (by omega)]; omega), r5, bnd1_some, r4, bnd1_some, ck_t y101.1, e1, bnd2_some, hC]
      rfl
    have m93 : ∀ a, inR 94 113 a → inR 93 113 a := fun a h => ⟨by have := h.1; omega, h.2⟩
    cases hp : pick B with
    | none =>
      obtain ⟨M2, e2, f2⟩ := d.1 hp
      have R2 : RelP M2 95 B := R1.fr f2 (fun a j h1 h2 h3 => by have := onF_in h3; omega)
      rw [dsL_n hp, dsR_n hp]
      refine ⟨sI (sI M2 93 1 (cplI B)) 93 2 1, ?_, ((s1'.mono m93).trans (f2.rng (fun a j h => by have := onF_in h; omega))).trans (fin B M2), ?_, ?_, ?_, ?_, ?_⟩
      · rw [st, e2, d_79 hN D w _ R2]
      · rw [sI_ne _ _ (by omega), sI_ne _ _ (by omega), f2.1 93 0 (fun h => by have := onF_in h; omega), n1]; rfl
      · rw [sI_ne _ _ (by omega), sI_same]
      · rw [sI_same]
      · intro i hi; rw [sI_ne _ _ (by omega), sI_ne _ _ (by omega), f2.1 94 i (fun h => by have := onF_in h; omega)]; exact k1 i
      · intro i q hq; rw [List.getElem?_nil] at hq; cases hq
    | some k =>
      obtain ⟨M2, e2, s2, R2, w2⟩ := d.2 k hp
      have hk := ffr_lt _ _ _ hp
      have hsk := ffr_some _ _ _ hp
      have wB := takeA_wf w (by omega) hsk
      have n2 : M2.1 93 0 = nI n := by rw [s2.1 93 (fun h => by have := h.1; omega)]; exact n1
      have s3 : Same (inR 93 113) M2 (sI M2 93 0 (nI (n + 1))) := Same.put ⟨by omega, by omega⟩
      obtain ⟨M', x1, x2, x3, x4, x5, x6, x7⟩ := ih (n + 1) fu (takeA B k) (c + 1) (sI M2 93 0 (nI (n + 1))) (by omega) (by omega) wB (by omega) (by rw [takeA_0]; exact hC) ((S1.same s2 (fun a ha h => by have := h.1; omega)).same s3 (fun a ha h => by have := h.1; omega)) (R2.same (Same.put (S := fun x => x = 93) rfl) (fun a h1 h2 h3 => by omega)) (sI_same _ _ _ _)
      rw [dsL_s hp, dsR_s hp]
      have k6 : ∀ i, i < 3 * (n + 1) → M'.1 94 i = M2.1 94 i := fun i hi => by rw [x6 i hi, sI_ne _ _ (by omega)]
      refine ⟨M', ?_, (((s1'.trans s2).mono m93).trans s3).trans x2, ?_, x4, x5, ?_, ?_⟩
      · rw [st, e2]
        unfold fX1_update_79
        rw [if_neg (by rw [i_eq (by omega) (by omega)]; omega), ck_t o93, n2, nI_1, hC]
        exact x1
      · rw [x3, List.length_cons]; congr 1; omega
      · intro i hi; rw [k6 i (by omega), w2.2.2.2 i hi]; exact k1 i
      · exact x7.cons w2 k6
end DU
/-- the dismantling that is kept is the plan's -/
def DisR (M : mM) (A : Row) : Prop := M.1 93 0 = nI (dsL 300 A).length ∧ M.1 93 1 = cplI (dsR 300 A) ∧ KeptL M 94 0 (dsL 300 A)
def PDis (M : mM) (A : Row) : Prop := M.1 93 2 = 0 ∨ (M.1 93 2 = 1 ∧ DisR M A)
theorem PDis.same {S : Nat → Prop} {M M' : mM} {A : Row} (h : PDis M A) (s : Same S M M') (h3 : ¬ S 93) (h4 : ¬ S 94) : PDis M' A := by
  rcases h with h | ⟨h, a, b, d⟩
  · exact Or.inl (by rw [s.1 93 h3]; exact h)
  · refine Or.inr ⟨by rw [s.1 93 h3]; exact h, by rw [s.1 93 h3]; exact a, by rw [s.1 93 h3]; exact b, fun i q hq => ?_⟩
    rw [s.1 94 h4, s.1 94 h4, s.1 94 h4]; exact d i q hq
theorem d_update {N : Nat} {Z : mZ} {A : Row} {c : Nat} (hN : 5000 ≤ N) (hC : ClsAt Z) (w : WF A c) (hc : c + 300 ≤ 1000000) {M : mM} (hs : Stat Z M) (hR : RelP M 9 A) (hd : PDis M A) :
    ∃ M', fX1_update N Z 93 9 M = some ((), M') ∧ Same (inR 93 113) M M' ∧ M'.1 93 2 = 1 ∧ DisR M' A := by
  obtain ⟨o8, -, ⟨p9, -, -⟩, -, -, -, -, -, hD, -⟩ := hC
  have D : DmAt Z := hD
  obtain ⟨o93, r3, r4, r5, r6, r7, -, p95, -⟩ := hD
  have h1 := w.1
  unfold fX1_update
  rcases hd with h0 | ⟨h0, h2⟩
  · have s1 : Same (inR 93 113) M (cpM M 95 9) := cpM_same.mono (fun a h => ⟨by have := h.1; omega, by have := h.2; omega⟩)
    have s2 : Same (inR 93 113) (cpM M 95 9) (sI (cpM M 95 9) 93 0 (nI 0)) := Same.put ⟨by omega, by omega⟩
    have R1 : RelP (cpM M 95 9) 95 A := cpM_rel hR
    obtain ⟨M', x1, x2, x3, x4, x5, x6, x7⟩ := d_37 (N := N) hN D (30 * A 0) 300 0 N A c (sI (cpM M 95 9) 93 0 (nI 0)) (by omega) (by omega) w hc rfl ((hs.same s1 (fun a ha h => by have := h.1; omega)).same s2 (fun a ha h => by have := h.1; omega)) (R1.same (Same.put (S := fun x => x = 93) rfl) (fun a h1 h2 h3 => by omega)) (sI_same _ _ _ _)
    refine ⟨M', ?_, (s1.trans s2).trans x2, x5, by rw [x3, Nat.zero_add], x4, x7⟩
    rw [ck_t o93, if_pos h0, r4, bnd1_some, ck_t p95.1, k_copy hN p95 p9 (by omega), bnd2_some, ck_t (okI_lo (by omega)), hs.1.2.2.2, R1.1, i_ofNat, i_6, pk_mul, pk_mul]
    exact x1
  · exact ⟨M, by rw [ck_t o93, if_neg (by rw [h0]; decide)], Same.rfl, h0, h2⟩
