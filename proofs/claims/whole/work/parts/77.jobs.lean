/-! ===== LAYER 3: calls: work ===== -/
section OJ
variable {N : Nat} {Z : mZ} {M : mM} {A : Row} {c : Nat} {sv : Option Row} {H : Nat → Row} {n : Nat} {rp : Nat → Nat × Nat} {r : Nat} {tx : Nat → Nat} {len : Nat}
theorem WFs.keep (w : WFs c A sv H n) (h1 : c + 1 ≤ 1000000) {B : Row} (wB : WF B (c + 1)) : WS (c + 1) (B, sv, kpH H n A, kpN n, rp, r, tx, len) := by
  refine ⟨wB, fun S hS => (w.2.1 S hS).mono (by omega) h1, fun i hi => ?_⟩
  have hA := w.1.mono (c' := c + 1) (by omega) h1
  have hH := fun i (hi : i < n) => (w.2.2 i hi).mono (c' := c + 1) (by omega) h1
  have hi' : i < kpN n := hi
  show WF (kpH H n A i) (c + 1)
  unfold kpH
  unfold kpN at hi'
  by_cases q : n = 8
  · rw [if_pos q] at hi' ⊢
    show WF (if i < 7 then H (i + 1) else A) (c + 1)
    by_cases q2 : i < 7
    · rw [if_pos q2]; exact hH _ (by omega)
    · rw [if_neg q2]; exact hA
  · rw [if_neg q] at hi' ⊢
    show WF (if i = n then A else H i) (c + 1)
    by_cases q2 : i = n
    · rw [if_pos q2]; exact hA
    · rw [if_neg q2]; exact hH _ (by omega)
theorem fill_ci (h : CI M A sv H n rp r tx len) {a b l t : Int32} : CI (fillM M 89 a b l t) A sv H n rp r tx len := h.sc fillM_fr (fun a j e => by unfold onSc; omega)
theorem fill_cl {a b l t : Int32} : Cl M (fillM M 89 a b l t) := fillM_fr.cl (fun a j e => by omega)
/-- a work of both: refused or done -/
theorem both_job (hN : 5000 ≤ N) (hC : ClsAt Z) (hM : ModAt Z) (w : WFs c A sv H n) (hc : c + 1 ≤ 1000000) {M0 : mM} (h : CI M0 A sv H n rp r tx len) {what p c1 c2 : Nat} {x : Int32} {tk : Bool} (hj : JobX M0 89 what p x c1 tk) (hk : what = 0 ∨ (2 ≤ what ∧ what ≤ 5)) (hp : p < A 0)
    (hcl : what = 2 → tk = false → 1 ≤ c1 ∧ c1 ≤ 4) (hcc : c1 = c2 ∨ (what = 2 → tk = true)) :
    ∃ (b : Bool) (B : Row) (H' : Nat → Row) (n' : Nat) (rp' : Nat → Nat × Nat) (r' : Nat), (∃ M1, fX8_isJobCarriedOut N Z 8 M0 = some (if b then 1 else 0, M1) ∧ Cl M0 M1 ∧ CI M1 B sv H' n' rp' r' tx len) ∧
      (∀ M1, MI M1 A sv H n rp r tx len → ∃ M2, fX9_works N Z 116 (nI what) (nI p) x (if tk then 1 else 0) (nI c2) M1 = some (if b then 1 else 0, M2) ∧ Mo M1 M2 ∧ M2.1 116 9 = nI 0 ∧ MI M2 B sv H' n' rp' r' tx len) ∧ WS (c + 1) (B, sv, H', n', rp', r', tx, len) ∧ B 0 = A 0 := by
  obtain ⟨k1, k2⟩ := c_job (N := N) hN hC w.1 hc h hj hk hp hcl
  have hcl2 : what = 2 → tk = false → 1 ≤ c2 ∧ c2 ≤ 4 := fun a b => by
    rcases hcc with e | e
    · rw [← e]; exact hcl a b
    · have := e a; rw [b] at this; cases this
  have eJ : ∀ l, jst A what p l c2 tk = jst A what p l c1 tk := fun l => by
    rcases hcc with e | e
    · rw [e]
    · exact jst_irr e _ _
  have eD : ∀ l, doA A what p l c2 tk = doA A what p l c1 tk := fun l => by
    rcases hcc with e | e
    · rw [e]
    · exact doA_irr e _ _
  cases hq : jst A what p (lvA A what p x.toNatClampNeg tk) c1 tk with
  | none =>
    obtain ⟨ok, M1, e1, cl1, I1⟩ := k1 hq
    refine ⟨true, _, _, _, _, _, ⟨M1, e1, cl1, I1⟩, fun M1 hM1 => ?_, w.keep hc (doA_wf w.1 hc ok), doA_0 hk⟩
    obtain ⟨M2, y1, y2, y3, y4⟩ := (m_works (N := N) (x := x) hN hM w.1 hc hM1 hk hp hcl2).1 (by rw [eJ]; exact hq)
    rw [eD] at y4
    exact ⟨M2, y1, y2, y3, y4⟩
  | some q =>
    obtain ⟨M1, e1, cl1, I1⟩ := k2 q hq
    refine ⟨false, A, H, n, _, 2, ⟨M1, e1, cl1, I1⟩, fun M1 hM1 => ?_, WS.mono (σ := (A, sv, H, n, rpQ what p q, 2, tx, len)) w (by omega) hc, rfl⟩
    obtain ⟨M2, y1, y2, y3, y4⟩ := (m_works (N := N) (x := x) hN hM w.1 hc hM1 hk hp hcl2).2 q (by rw [eJ]; exact hq)
    exact ⟨M2, y1, y2, y3, y4⟩
/-- a call that does work: places checked already -/
theorem job_call (hM : ModAt Z) {RC : Option ((Int32 ⊕ String) × mM)} {RM : mM → Option (Int32 × mM)} {nm : Nat → String} {kf : Nat} {b : Bool} {B : Row} {H' : Nat → Row} {n' : Nat} {rp' : Nat → Nat × Nat} {r' : Nat} {M0 : mM} {v : Int32} {c' : Nat} (hkf : 1 ≤ kf ∧ kf ≤ 3 ∧ fstN nm kf)
    (cl0 : Cl M M0) (hc : ∃ M1, fX8_isJobCarriedOut N Z 8 M0 = some (if b then 1 else 0, M1) ∧ Cl M0 M1 ∧ CI M1 B sv H' n' rp' r' tx len)
    (hRC : ∀ M1, fX8_isJobCarriedOut N Z 8 M0 = some (if b then 1 else 0, M1) → CI M1 B sv H' n' rp' r' tx len → RC = if b then some (.inl v, M1) else some (.inr (nm kf), sT M1))
    (hRM : ∀ M1, MI M1 A sv H n rp r tx len → ∃ M2 w9, Mo M1 M2 ∧ M2.1 116 9 = nI 0 ∧ MI M2 B sv H' n' rp' r' tx len ∧ RM M1 = if b then some (v, M2) else bnd2 (fX9_fails N Z 116 (nI kf) M2) (fun _ M3 => some (w9, M3)))
    (w : WS c' (B, sv, H', n', rp', r', tx, len)) : OpOK M (A, sv, H, n, rp, r, tx, len) c' RC RM nm := by
  obtain ⟨M1, e1, cl1, I1⟩ := hc
  have hr := hRC M1 e1 I1
  cases b with
  | true =>
    rw [if_pos rfl] at hr
    refine ⟨.inl v, (B, sv, H', n', rp', r', tx, len), ⟨M1, hr, cl0.trans cl1, I1⟩, fun M1 hM1 => ?_, fun k e => (by cases e), w⟩
    obtain ⟨M2, w9, y1, y2, y3, y4⟩ := hRM M1 hM1
    rw [if_pos rfl] at y4
    exact ⟨v, M2, y4, y1, y2, fun v' e => by cases e; rfl, y3⟩
  | false =>
    rw [if_neg (by decide)] at hr
    refine ⟨.inr kf, (B, sv, H', n', rp', r', tx, len), ⟨sT M1, hr, cl0.trans cl1, I1⟩, fun M1 hM1 => ?_, fun k e => by cases e; exact hkf, w⟩
    obtain ⟨M2, w9, y1, y2, y3, y4⟩ := hRM M1 hM1
    rw [if_neg (by decide), m_fails hM, bnd2_some] at y4
    exact ⟨w9, sI M2 116 9 (nI kf), y4, y1.trans mo_thr, sI_same _ _ _ _, fun v' e => (by cases e), MS.thr (σ := (B, sv, H', n', rp', r', tx, len)) y3 _⟩
theorem h_at (hC : ClsAt Z) {M1 : mM} {B : Row} (hR : RelP M1 9 B) {p : Nat} (hp : p < 10) : fX8_at N Z 10 (nI p) M1 = some (nI (B (11 + p)), M1) := by
  obtain ⟨-, -, ⟨⟨o1, o2, -, -, -, -, ⟨-, o5, o6⟩, -⟩, -⟩, -⟩ := hC
  have := k_at (N := N) (M := M1) o5 (show p < Z.2.2.1 (9 + 1) by omega) (by omega)
  rw [hR.2.2.1 p hp] at this
  exact this
theorem op_erect (hN : 5000 ≤ N) (hC : ClsAt Z) (hM : ModAt Z) (w : WFs c A sv H n) (hc : c + 1 ≤ 1000000) (h : CI M A sv H n rp r tx len) (x : Int32) : OpOK M (A, sv, H, n, rp, r, tx, len) (c + 1) (fX8_erect N Z 8 x M) (fX9_erect N Z 116 x) (fun k => if k = 1 then IOO else UOE) := by
  have hS : CS M (A, sv, H, n, rp, r, tx, len) := h
  have wS : WS c (A, sv, H, n, rp, r, tx, len) := w
  have C := hC
  obtain ⟨o8, ⟨r0, r1, r2, r4, r5, r6, r7, r8, r9, r10⟩, ⟨p9, -⟩, -, -, -, o89, -⟩ := hC
  rcases place_cases (N := N) C hM w.1 x with ⟨p, rfl, hp⟩ | ⟨e1, e2⟩
  · have h1 := w.1.1
    have J : JobX (fillM M 89 (nI 0) (nI p) (nI 0) (if false = true then 1 else 0)) 89 0 p (nI 0) 1 false := fillM_job
    obtain ⟨b, B, H', n', rp', r', hc1, hm1, w1, hB0⟩ := both_job (N := N) (c2 := 0) hN C hM w hc (fill_ci h) J (Or.inl rfl) hp (fun e => by omega) (Or.inr (fun e => by omega))
    have ef : fX7_fill N Z 89 (0 : Int32) (nI p) (0 : Int32) (0 : Int32) M = some ((), fillM M 89 (nI 0) (nI p) (nI 0) (if false = true then 1 else 0)) := k_fill o89 (nI 0) (nI p) (nI 0) false
    refine job_call (N := N) (Z := Z) (kf := 2) (b := b) (v := nI (B (11 + p))) hM ⟨by omega, by omega, by decide +kernel⟩ fill_cl hc1 (fun M1 e I => ?_) (fun M1 hM1 => ?_) w1
    · unfold fX8_erect
      rw [ck_t o8, r0, bnd1_some, ck_t p9.1, place_k C w.1 hp h.1, bnd2_some, if_neg (by decide), r7, bnd1_some, ck_t o89, ef, bnd2_some, e, bnd2_some]
      cases b with
      | true => rw [if_neg (by decide), p9.2.1, bnd1_some, h_at C I.1 (by omega), bnd2_some]; try rfl
      | false => rw [if_pos (by decide)]; try rfl
    · obtain ⟨M2, y1, y2, y3, y4⟩ := hm1 (sI M1 116 9 (nI 0)) (MS.thr (σ := (A, sv, H, n, rp, r, tx, len)) hM1 _)
      have y1' : fX9_works N Z 116 (0 : Int32) (nI p) (0 : Int32) (0 : Int32) (0 : Int32) (sI M1 116 9 (0 : Int32)) = some (if b then 1 else 0, M2) := y1
      refine ⟨M2, 0, mo_thr.trans y2, y3, y4, ?_⟩
      have t := MS.thr (σ := (A, sv, H, n, rp, r, tx, len)) hM1 (nI 0)
      unfold fX9_erect
      rw [ck_t hM.1, show fX9_isPlace N Z 116 (nI p) (sI M1 116 9 (0 : Int32)) = some (1, sI M1 116 9 (0 : Int32)) from place_m hM w.1 hp t.1, bnd2_some, if_neg (by decide), y1', bnd2_some]
      cases b with
      | true => rw [if_neg (by decide), m_high hM y4.1 (by omega), bnd2_some, if_pos rfl]
      | false => rw [if_pos (by decide), if_neg (by decide), show fX9_fails N Z 116 (2 : Int32) M2 = fX9_fails N Z 116 (nI 2) M2 from rfl, m_fails hM, bnd2_some, bnd2_some]
  · refine OpOK.of_no (k := 1) ⟨by omega, by omega, by decide +kernel⟩ (WS.mono (σ := (A, sv, H, n, rp, r, tx, len)) w (by omega) hc) (CK.bad hS ?_) (fun M1 hM1 => ⟨0, sI (sI M1 116 9 (nI 0)) 116 9 (nI 1), ?_, mo_thr.trans mo_thr, sI_same _ _ _ _, fun v e => (by cases e), (hM1.thr _).thr _⟩)
    · unfold fX8_erect; rw [ck_t o8, r0, bnd1_some, ck_t p9.1, e1 M h.1, bnd2_some, if_pos rfl]; try rfl
    · unfold fX9_erect
      rw [ck_t hM.1, show fX9_isPlace N Z 116 x (sI M1 116 9 (0 : Int32)) = some (0, sI M1 116 9 (0 : Int32)) from e2 _ (hM1.thr (nI 0)).1, bnd2_some, if_pos rfl, show fX9_fails N Z 116 (1 : Int32) (sI M1 116 9 (0 : Int32)) = fX9_fails N Z 116 (nI 1) (sI M1 116 9 (nI 0)) from rfl, m_fails hM, bnd2_some]
theorem op_lower (hN : 5000 ≤ N) (hC : ClsAt Z) (hM : ModAt Z) (w : WFs c A sv H n) (hc : c + 1 ≤ 1000000) (h : CI M A sv H n rp r tx len) (x : Int32) : OpOK M (A, sv, H, n, rp, r, tx, len) (c + 1) (fX8_lower N Z 8 x M) (fX9_lower N Z 116 x) (fun k => if k = 1 then IOO else UOE) := by
  have hS : CS M (A, sv, H, n, rp, r, tx, len) := h
  have wS : WS c (A, sv, H, n, rp, r, tx, len) := w
  have C := hC
  obtain ⟨o8, ⟨r0, r1, r2, r4, r5, r6, r7, r8, r9, r10⟩, ⟨p9, -⟩, -, -, -, o89, -⟩ := hC
  rcases place_cases (N := N) C hM w.1 x with ⟨p, rfl, hp⟩ | ⟨e1, e2⟩
  · have h1 := w.1.1
    have J : JobX (fillM M 89 (nI 0) (nI p) (nI 0) (if true = true then 1 else 0)) 89 0 p (nI 0) 1 true := fillM_job
    obtain ⟨b, B, H', n', rp', r', hc1, hm1, w1, hB0⟩ := both_job (N := N) (c2 := 0) hN C hM w hc (fill_ci h) J (Or.inl rfl) hp (fun e => by omega) (Or.inr (fun e => by omega))
    have ef : fX7_fill N Z 89 (0 : Int32) (nI p) (0 : Int32) (1 : Int32) M = some ((), fillM M 89 (nI 0) (nI p) (nI 0) (if true = true then 1 else 0)) := k_fill o89 (nI 0) (nI p) (nI 0) true
    refine job_call (N := N) (Z := Z) (kf := 2) (b := b) (v := nI (B (11 + p))) hM ⟨by omega, by omega, by decide +kernel⟩ fill_cl hc1 (fun M1 e I => ?_) (fun M1 hM1 => ?_) w1
    · unfold fX8_lower
      rw [ck_t o8, r0, bnd1_some, ck_t p9.1, place_k C w.1 hp h.1, bnd2_some, if_neg (by decide), r7, bnd1_some, ck_t o89, ef, bnd2_some, e, bnd2_some]
      cases b with
      | true => rw [if_neg (by decide), p9.2.1, bnd1_some, h_at C I.1 (by omega), bnd2_some]; try rfl
      | false => rw [if_pos (by decide)]; try rfl
    · obtain ⟨M2, y1, y2, y3, y4⟩ := hm1 (sI M1 116 9 (nI 0)) (MS.thr (σ := (A, sv, H, n, rp, r, tx, len)) hM1 _)
      have y1' : fX9_works N Z 116 (0 : Int32) (nI p) (0 : Int32) (1 : Int32) (0 : Int32) (sI M1 116 9 (0 : Int32)) = some (if b then 1 else 0, M2) := y1
      refine ⟨M2, 0, mo_thr.trans y2, y3, y4, ?_⟩
      have t := MS.thr (σ := (A, sv, H, n, rp, r, tx, len)) hM1 (nI 0)
      unfold fX9_lower
      rw [ck_t hM.1, show fX9_isPlace N Z 116 (nI p) (sI M1 116 9 (0 : Int32)) = some (1, sI M1 116 9 (0 : Int32)) from place_m hM w.1 hp t.1, bnd2_some, if_neg (by decide), y1', bnd2_some]
      cases b with
      | true => rw [if_neg (by decide), m_high hM y4.1 (by omega), bnd2_some, if_pos rfl]
      | false => rw [if_pos (by decide), if_neg (by decide), show fX9_fails N Z 116 (2 : Int32) M2 = fX9_fails N Z 116 (nI 2) M2 from rfl, m_fails hM, bnd2_some, bnd2_some]
  · refine OpOK.of_no (k := 1) ⟨by omega, by omega, by decide +kernel⟩ (WS.mono (σ := (A, sv, H, n, rp, r, tx, len)) w (by omega) hc) (CK.bad hS ?_) (fun M1 hM1 => ⟨0, sI (sI M1 116 9 (nI 0)) 116 9 (nI 1), ?_, mo_thr.trans mo_thr, sI_same _ _ _ _, fun v e => (by cases e), (hM1.thr _).thr _⟩)
    · unfold fX8_lower; rw [ck_t o8, r0, bnd1_some, ck_t p9.1, e1 M h.1, bnd2_some, if_pos rfl]; try rfl
    · unfold fX9_lower
      rw [ck_t hM.1, show fX9_isPlace N Z 116 x (sI M1 116 9 (0 : Int32)) = some (0, sI M1 116 9 (0 : Int32)) from e2 _ (hM1.thr (nI 0)).1, bnd2_some, if_pos rfl, show fX9_fails N Z 116 (1 : Int32) (sI M1 116 9 (0 : Int32)) = fX9_fails N Z 116 (nI 1) (sI M1 116 9 (nI 0)) from rfl, m_fails hM, bnd2_some]
theorem op_deck (hN : 5000 ≤ N) (hC : ClsAt Z) (hM : ModAt Z) (w : WFs c A sv H n) (hc : c + 1 ≤ 1000000) (h : CI M A sv H n rp r tx len) (x l y : Int32) : OpOK M (A, sv, H, n, rp, r, tx, len) (c + 1) (fX8_deck N Z 8 x l y M) (fX9_deck N Z 116 x l y) (fun k => if k = 1 then IOO else if k = 2 then IAE else UOE) := by
  have hS : CS M (A, sv, H, n, rp, r, tx, len) := h
  have wS : WS c (A, sv, H, n, rp, r, tx, len) := w
  have C := hC
  obtain ⟨o8, ⟨r0, r1, r2, r4, r5, r6, r7, r8, r9, r10⟩, ⟨p9, -⟩, -, -, -, o89, -⟩ := hC
  have w1 := WS.mono (σ := (A, sv, H, n, rp, r, tx, len)) w (show c ≤ c + 1 by omega) hc
  rcases place_cases (N := N) C hM w.1 x with ⟨p, rfl, hp⟩ | ⟨e1, e2⟩
  · have h1 := w.1.1
    rcases in_cases y (lo := 1) (hi := 4) (by omega) (by omega) with ⟨v, rfl, g1, g2⟩ | ⟨e3, e4⟩
    · have J : JobX (sI (fillM M 89 (nI 2) (nI p) l (if false = true then 1 else 0)) 89 3 (nI v)) 89 2 p l v false := (fillM_job (what := 2) (tk := false)).kls v
      have f3 : Fr (fun a j => a = 89) (fillM M 89 (nI 2) (nI p) l (if false = true then 1 else 0)) (sI (fillM M 89 (nI 2) (nI p) l (if false = true then 1 else 0)) 89 3 (nI v)) := Fr.put (P := fun a j => a = 89) rfl
      obtain ⟨b, B, H', n', rp', r', hc1, hm1, w1, hB0⟩ := both_job (N := N) (c2 := v) hN C hM w hc ((fill_ci h).sc f3 (fun a j e => by unfold onSc; omega)) J (Or.inr ⟨by omega, by omega⟩) hp (fun _ _ => ⟨g1, g2⟩) (Or.inl rfl)
      have ef : fX7_fill N Z 89 (2 : Int32) (nI p) l (0 : Int32) M = some ((), fillM M 89 (nI 2) (nI p) l (if false = true then 1 else 0)) := k_fill o89 (nI 2) (nI p) l false
      refine job_call (N := N) (Z := Z) (kf := 3) (b := b) (v := nI (pc (dm B p))) hM ⟨by omega, by omega, by decide +kernel⟩ (fill_cl.trans (f3.cl (fun a j e => by omega))) hc1 (fun M1 e I => ?_) (fun M1 hM1 => ?_) w1
      · unfold fX8_deck
        rw [ck_t o8, r0, bnd1_some, ck_t p9.1, place_k C w.1 hp h.1, bnd2_some, if_neg (by decide), if_neg (by rw [i_1, i_lt (by omega) (by omega)]; omega), if_pos (by rw [i_4, i_le (by omega) (by omega)]; exact g2), r7, bnd1_some, ck_t o89, ef, bnd2_some, e, bnd2_some]
        cases b with
        | true => rw [if_neg (by decide), show fX4_levelsWith N Z 9 (2 : Int32) (nI p) M1 = some (nI (dm B p), M1) from k_levelsWith (k := 2) p9 I.1 (by omega) (by omega) (by omega), bnd2_some, k_bitCount (by have := dm_lt B p; omega), bnd2_some]; try rfl
        | false => rw [if_pos (by decide)]; try rfl
      · obtain ⟨M2, y1, y2, y3, y4⟩ := hm1 (sI M1 116 9 (nI 0)) (MS.thr (σ := (A, sv, H, n, rp, r, tx, len)) hM1 _)
        have y1' : fX9_works N Z 116 (2 : Int32) (nI p) l (0 : Int32) (nI v) (sI M1 116 9 (0 : Int32)) = some (if b then 1 else 0, M2) := y1
        refine ⟨M2, 0, mo_thr.trans y2, y3, y4, ?_⟩
        unfold fX9_deck
        rw [ck_t hM.1, place_m hM w.1 hp hM1.1, bnd2_some, if_neg (by decide), show fX9_in N Z (nI v) (1 : Int32) (4 : Int32) M1 = some (1, M1) from in_yes (lo := 1) (hi := 4) g1 g2 (by omega), bnd2_some, if_neg (by decide)]
        unfold fX9_deck_27
        rw [ck_t hM.1, ck_t hM.1, sI_same, if_pos (by decide), y1', bnd2_some]
        cases b with
        | true => rw [if_neg (by decide), m_decks hN hM w1.1 y4.1 (by omega), bnd2_some, if_pos rfl]
        | false => rw [if_pos (by decide), if_neg (by decide), show fX9_fails N Z 116 (3 : Int32) M2 = fX9_fails N Z 116 (nI 3) M2 from rfl, m_fails hM, bnd2_some, bnd2_some]
    · refine OpOK.of_no (k := 2) ⟨by omega, by omega, by decide +kernel⟩ w1 (CK.bad hS ?_) (MK.bad (fun M1 hM1 => ?_))
      · unfold fX8_deck; rw [ck_t o8, r0, bnd1_some, ck_t p9.1, place_k C w.1 hp h.1, bnd2_some, if_neg (by decide)]; exact thr2 e4
      · unfold fX9_deck
        rw [ck_t hM.1, place_m hM w.1 hp hM1.1, bnd2_some, if_neg (by decide), show fX9_in N Z y (1 : Int32) (4 : Int32) M1 = some (0, M1) from e3 N Z M1, bnd2_some, if_pos rfl]
        unfold fX9_deck_27
        rw [ck_t hM.1, ck_t hM.1, sI_same, if_neg (by decide)]; try rfl
  · refine OpOK.of_no (k := 1) ⟨by omega, by omega, by decide +kernel⟩ w1 (CK.bad hS ?_) (MK.bad (fun M1 hM1 => ?_))
    · unfold fX8_deck; rw [ck_t o8, r0, bnd1_some, ck_t p9.1, e1 M h.1, bnd2_some, if_pos rfl]; try rfl
    · unfold fX9_deck
      rw [ck_t hM.1, e2 M1 hM1.1, bnd2_some, if_pos rfl]
      unfold fX9_deck_27
      rw [ck_t hM.1, ck_t hM.1, sI_same, if_neg (by decide)]; try rfl
theorem op_put (hN : 5000 ≤ N) (hC : ClsAt Z) (hM : ModAt Z) (w : WFs c A sv H n) (hc : c + 1 ≤ 1000000) (h : CI M A sv H n rp r tx len) (y x l : Int32) : OpOK M (A, sv, H, n, rp, r, tx, len) (c + 1) (fX8_put N Z 8 y x l M) (fX9_put N Z 116 y x l) (fun k => if k = 1 then IAE else if k = 2 then IOO else UOE) := by
  have hS : CS M (A, sv, H, n, rp, r, tx, len) := h
  have wS : WS c (A, sv, H, n, rp, r, tx, len) := w
  have C := hC
  obtain ⟨o8, ⟨r0, r1, r2, r4, r5, r6, r7, r8, r9, r10⟩, ⟨p9, -⟩, -, -, -, o89, -⟩ := hC
  have w1 := WS.mono (σ := (A, sv, H, n, rp, r, tx, len)) w (show c ≤ c + 1 by omega) hc
  rcases in_cases y (lo := 3) (hi := 5) (by omega) (by omega) with ⟨v, rfl, g1, g2⟩ | ⟨e3, e4⟩
  · rcases place_cases (N := N) C hM w.1 x with ⟨p, rfl, hp⟩ | ⟨e1, e2⟩
    · have h1 := w.1.1
      have J : JobX (fillM M 89 (nI v) (nI p) l (if false = true then 1 else 0)) 89 v p l 1 false := fillM_job
      obtain ⟨b, B, H', n', rp', r', hc1, hm1, w1, hB0⟩ := both_job (N := N) (c2 := 0) hN C hM w hc (fill_ci h) J (Or.inr ⟨by omega, by omega⟩) hp (fun e => by omega) (Or.inr (fun e => by omega))
      have ef : fX7_fill N Z 89 (nI v) (nI p) l (0 : Int32) M = some ((), fillM M 89 (nI v) (nI p) l (if false = true then 1 else 0)) := k_fill o89 (nI v) (nI p) l false
      refine job_call (N := N) (Z := Z) (kf := 3) (b := b) (v := nI (aPieces B v)) hM ⟨by omega, by omega, by decide +kernel⟩ fill_cl hc1 (fun M1 e I => ?_) (fun M1 hM1 => ?_) w1
      · unfold fX8_put
        rw [if_neg (by rw [i_3, i_lt (by omega) (by omega)]; omega), if_pos (by rw [i_5, i_le (by omega) (by omega)]; exact g2), ck_t o8, r0, bnd1_some, ck_t p9.1, place_k C w.1 hp h.1, bnd2_some, if_neg (by decide), r7, bnd1_some, ck_t o89, ef, bnd2_some, e, bnd2_some]
        cases b with
        | true => rw [if_neg (by decide), k_pieces hN p9 I.1 w1.1 (by omega), bnd2_some]; try rfl
        | false => rw [if_pos (by decide)]; try rfl
      · obtain ⟨M2, y1, y2, y3, y4⟩ := hm1 (sI M1 116 9 (nI 0)) (MS.thr (σ := (A, sv, H, n, rp, r, tx, len)) hM1 _)
        have y1' : fX9_works N Z 116 (nI v) (nI p) l (0 : Int32) (0 : Int32) (sI M1 116 9 (0 : Int32)) = some (if b then 1 else 0, M2) := y1
        refine ⟨M2, 0, mo_thr.trans y2, y3, y4, ?_⟩
        unfold fX9_put
        rw [show fX9_in N Z (nI v) (3 : Int32) (5 : Int32) M1 = some (1, M1) from in_yes (lo := 3) (hi := 5) g1 g2 (by omega), bnd2_some, if_neg (by decide), ck_t hM.1, place_m hM w.1 hp hM1.1, bnd2_some, if_neg (by decide)]
        unfold fX9_put_27
        rw [ck_t hM.1, ck_t hM.1, sI_same, if_pos (by decide), y1', bnd2_some]
        cases b with
        | true => rw [if_neg (by decide), m_pieces hN hM w1.1 y4.1 (by omega), bnd2_some, if_pos rfl]
        | false => rw [if_pos (by decide), if_neg (by decide), show fX9_fails N Z 116 (3 : Int32) M2 = fX9_fails N Z 116 (nI 3) M2 from rfl, m_fails hM, bnd2_some, bnd2_some]
    · refine OpOK.of_no (k := 2) ⟨by omega, by omega, by decide +kernel⟩ w1 (CK.bad hS ?_) (MK.bad (fun M1 hM1 => ?_))
      · unfold fX8_put
        rw [if_neg (by rw [i_3, i_lt (by omega) (by omega)]; omega), if_pos (by rw [i_5, i_le (by omega) (by omega)]; exact g2), ck_t o8, r0, bnd1_some, ck_t p9.1, e1 M h.1, bnd2_some, if_pos rfl]; try rfl
      · unfold fX9_put
        rw [show fX9_in N Z (nI v) (3 : Int32) (5 : Int32) M1 = some (1, M1) from in_yes (lo := 3) (hi := 5) g1 g2 (by omega), bnd2_some, if_neg (by decide), ck_t hM.1, e2 M1 hM1.1, bnd2_some, if_pos rfl]
        unfold fX9_put_27
        rw [ck_t hM.1, ck_t hM.1, sI_same, if_neg (by decide)]; try rfl
  · refine OpOK.of_no (k := 1) ⟨by omega, by omega, by decide +kernel⟩ w1 (CK.bad hS ?_) (MK.bad (fun M1 hM1 => ?_))
    · unfold fX8_put; exact thr2 e4
    · unfold fX9_put
      rw [show fX9_in N Z y (3 : Int32) (5 : Int32) M1 = some (0, M1) from e3 N Z M1, bnd2_some, if_pos rfl]
      unfold fX9_put_27
      rw [ck_t hM.1, ck_t hM.1, sI_same, if_neg (by decide)]; try rfl
theorem op_take (hN : 5000 ≤ N) (hC : ClsAt Z) (hM : ModAt Z) (w : WFs c A sv H n) (hc : c + 1 ≤ 1000000) (h : CI M A sv H n rp r tx len) (y x l : Int32) : OpOK M (A, sv, H, n, rp, r, tx, len) (c + 1) (fX8_take N Z 8 y x l M) (fX9_take N Z 116 y x l) (fun k => if k = 1 then IAE else if k = 2 then IOO else UOE) := by
  have hS : CS M (A, sv, H, n, rp, r, tx, len) := h
  have wS : WS c (A, sv, H, n, rp, r, tx, len) := w
  have C := hC
  obtain ⟨o8, ⟨r0, r1, r2, r4, r5, r6, r7, r8, r9, r10⟩, ⟨p9, -⟩, -, -, -, o89, -⟩ := hC
  have w1 := WS.mono (σ := (A, sv, H, n, rp, r, tx, len)) w (show c ≤ c + 1 by omega) hc
  rcases in_cases y (lo := 2) (hi := 5) (by omega) (by omega) with ⟨v, rfl, g1, g2⟩ | ⟨e3, e4⟩
  · rcases place_cases (N := N) C hM w.1 x with ⟨p, rfl, hp⟩ | ⟨e1, e2⟩
    · have h1 := w.1.1
      have J : JobX (fillM M 89 (nI v) (nI p) l (if true = true then 1 else 0)) 89 v p l 1 true := fillM_job
      obtain ⟨b, B, H', n', rp', r', hc1, hm1, w1, hB0⟩ := both_job (N := N) (c2 := 0) hN C hM w hc (fill_ci h) J (Or.inr ⟨by omega, by omega⟩) hp (fun _ e => Bool.noConfusion e) (Or.inr (fun e => rfl))
      have ef : fX7_fill N Z 89 (nI v) (nI p) l (1 : Int32) M = some ((), fillM M 89 (nI v) (nI p) l (if true = true then 1 else 0)) := k_fill o89 (nI v) (nI p) l true
      refine job_call (N := N) (Z := Z) (kf := 3) (b := b) (v := nI (aPieces B v)) hM ⟨by omega, by omega, by decide +kernel⟩ fill_cl hc1 (fun M1 e I => ?_) (fun M1 hM1 => ?_) w1
      · unfold fX8_take
        rw [if_neg (by rw [i_2, i_lt (by omega) (by omega)]; omega), if_pos (by rw [i_5, i_le (by omega) (by omega)]; exact g2), ck_t o8, r0, bnd1_some, ck_t p9.1, place_k C w.1 hp h.1, bnd2_some, if_neg (by decide), r7, bnd1_some, ck_t o89, ef, bnd2_some, e, bnd2_some]
        cases b with
        | true => rw [if_neg (by decide), k_pieces hN p9 I.1 w1.1 (by omega), bnd2_some]; try rfl
        | false => rw [if_pos (by decide)]; try rfl
      · obtain ⟨M2, y1, y2, y3, y4⟩ := hm1 (sI M1 116 9 (nI 0)) (MS.thr (σ := (A, sv, H, n, rp, r, tx, len)) hM1 _)
        have y1' : fX9_works N Z 116 (nI v) (nI p) l (1 : Int32) (0 : Int32) (sI M1 116 9 (0 : Int32)) = some (if b then 1 else 0, M2) := y1
        refine ⟨M2, 0, mo_thr.trans y2, y3, y4, ?_⟩
        unfold fX9_take
        rw [show fX9_in N Z (nI v) (2 : Int32) (5 : Int32) M1 = some (1, M1) from in_yes (lo := 2) (hi := 5) g1 g2 (by omega), bnd2_some, if_neg (by decide), ck_t hM.1, place_m hM w.1 hp hM1.1, bnd2_some, if_neg (by decide)]
        unfold fX9_take_27
        rw [ck_t hM.1, ck_t hM.1, sI_same, if_pos (by decide), y1', bnd2_some]
        cases b with
        | true => rw [if_neg (by decide), m_pieces hN hM w1.1 y4.1 (by omega), bnd2_some, if_pos rfl]
        | false => rw [if_pos (by decide), if_neg (by decide), show fX9_fails N Z 116 (3 : Int32) M2 = fX9_fails N Z 116 (nI 3) M2 from rfl, m_fails hM, bnd2_some, bnd2_some]
    · refine OpOK.of_no (k := 2) ⟨by omega, by omega, by decide +kernel⟩ w1 (CK.bad hS ?_) (MK.bad (fun M1 hM1 => ?_))
      · unfold fX8_take
        rw [if_neg (by rw [i_2, i_lt (by omega) (by omega)]; omega), if_pos (by rw [i_5, i_le (by omega) (by omega)]; exact g2), ck_t o8, r0, bnd1_some, ck_t p9.1, e1 M h.1, bnd2_some, if_pos rfl]; try rfl
      · unfold fX9_take
        rw [show fX9_in N Z (nI v) (2 : Int32) (5 : Int32) M1 = some (1, M1) from in_yes (lo := 2) (hi := 5) g1 g2 (by omega), bnd2_some, if_neg (by decide), ck_t hM.1, e2 M1 hM1.1, bnd2_some, if_pos rfl]
        unfold fX9_take_27
        rw [ck_t hM.1, ck_t hM.1, sI_same, if_neg (by decide)]; try rfl
  · refine OpOK.of_no (k := 1) ⟨by omega, by omega, by decide +kernel⟩ w1 (CK.bad hS ?_) (MK.bad (fun M1 hM1 => ?_))
    · unfold fX8_take; exact thr2 e4
    · unfold fX9_take
      rw [show fX9_in N Z y (2 : Int32) (5 : Int32) M1 = some (0, M1) from e3 N Z M1, bnd2_some, if_pos rfl]
      unfold fX9_take_27
      rw [ck_t hM.1, ck_t hM.1, sI_same, if_neg (by decide)]; try rfl
theorem op_refusal (hN : 5000 ≤ N) (hC : ClsAt Z) (hM : ModAt Z) (w : WFs c A sv H n) (hc : c + 1 ≤ 1000000) (h : CI M A sv H n rp r tx len) (y x l : Int32) (tk : Bool) : OpOK M (A, sv, H, n, rp, r, tx, len) c (fX8_refusal N Z 8 y x l (if tk then 1 else 0) M) (fX9_refusal N Z 116 y x l (if tk then 1 else 0)) (fun k => if k = 1 then IAE else IOO) := by
  have hS : CS M (A, sv, H, n, rp, r, tx, len) := h
  have wS : WS c (A, sv, H, n, rp, r, tx, len) := w
  have C := hC
  obtain ⟨o8, ⟨r0, r1, r2, r4, r5, r6, r7, r8, r9, r10⟩, ⟨p9, -⟩, -, y77, j82, o89, -⟩ := hC
  have i0 : ∀ v, v ≤ 5 → ((nI v = 0) ↔ v = 0) := fun v hv => by rw [i_0, i_eq (by omega) (by omega)]
  have main : ∀ v, (v = 0 ∨ (2 ≤ v ∧ v ≤ 5)) → OpOK M (A, sv, H, n, rp, r, tx, len) c (fX8_refusal_22 N Z 8 (nI v) x l (if tk then 1 else 0) M) (fX9_refusal N Z 116 (nI v) x l (if tk then 1 else 0)) (fun k => if k = 1 then IAE else IOO) := fun v hv => by
    have ew : ∀ M1, fX9_isWhat N Z (nI v) M1 = some (1, M1) := fun M1 => by
      unfold fX9_isWhat
      rcases hv with e | e
      · rw [if_pos ((i0 v (by omega)).2 e)]
      · rw [if_neg (fun q => by have := (i0 v (by omega)).1 q; omega), show fX9_in N Z (nI v) (2 : Int32) (5 : Int32) M1 = some (1, M1) from in_yes (lo := 2) (hi := 5) e.1 e.2 (by omega), bnd2_some, if_neg (by decide)]
    rcases place_cases (N := N) C hM w.1 x with ⟨p, rfl, hp⟩ | ⟨e1, e2⟩
    · have h1 := w.1.1
      have I0 := fill_ci (a := nI v) (b := nI p) (l := l) (t := (if tk then 1 else 0)) h
      obtain ⟨M1, x1, s1, Y1, -⟩ := w_explore (N := N) y77 p9 (by omega) w.1 hN I0.1
      have f1 : ∀ a, inW 77 a → onSc a := fun a q => by have := q.1; have := q.2; unfold onSc; omega
      have I1 := I0.sc s1.fr (fun a j q => f1 a q)
      have J1 : JobX M1 89 v p l 1 tk := JobX.fr fillM_job s1.fr (fun j q => by have := q.1; have := q.2; omega)
      obtain ⟨M2, x2, f2, q2, -⟩ := j_examine (N := N) hN j82 p9 y77 o89 (by omega) (by omega) (by omega) (by omega) (by omega) I1.1 Y1 w.1 hc J1 hv hp (fun _ _ => ⟨by omega, by omega⟩)
      have I2 := I1.sc f2 (fun a j q => onE_sc q)
      have cl2 : Cl M M2 := (fill_cl.trans (s1.cl (fun a q => onSc_cl (f1 a q)))).trans (f2.cl (fun a j q => onSc_cl (onE_sc q)))
      refine OpOK.of_yes (nI (rN (jst A v p (lvA A v p l.toNatClampNeg tk) 1 tk))) wS ⟨M2, ?_, cl2, I2⟩ (fun M3 hM3 => ?_)
      · unfold fX8_refusal_22
        rw [ck_t o8, r0, bnd1_some, ck_t p9.1, place_k C w.1 hp h.1, bnd2_some, if_neg (by decide), r7, bnd1_some, ck_t o89, k_fill o89, bnd2_some, r5, bnd1_some, ck_t y77.1, x1, bnd2_some, r6, bnd1_some, ck_t j82.1, x2, bnd2_some, q2.1]; try rfl
      · have t := hM3.thr (nI 0)
        obtain ⟨M4, y1, f4, R4, -⟩ := m_against (N := N) (x := l) (cls := 1) hN hM w.1 hc t.1 hv hp (fun _ _ => ⟨by omega, by omega⟩)
        refine ⟨_, M4, ?_, mo_thr.trans (f4.mo (fun a j e => by unfold onA at e; omega)), ?_, fun v' e => by cases e; rfl, R4, t.2.fr f4 (fun a j e => onA_mr e)⟩
        · unfold fX9_refusal
          rw [ew, bnd2_some, if_neg (by decide), ck_t hM.1, place_m hM w.1 hp hM3.1, bnd2_some, if_neg (by decide), sI_same, if_pos (by decide)]
          rw [show fX9_against N Z 116 (nI v) (nI p) l (if tk then 1 else 0) (1 : Int32) (sI M3 116 9 (0 : Int32)) = _ from y1, bnd2_some]
        · rw [f4.1 116 9 (fun e => by unfold onA at e; omega), sI_same]; try rfl
    · refine OpOK.of_no (k := 2) ⟨by omega, by omega, by decide +kernel⟩ wS (CK.bad hS ?_) (MK.bad (fun M1 hM1 => ?_))
      · unfold fX8_refusal_22
        rw [ck_t o8, r0, bnd1_some, ck_t p9.1, e1 M h.1, bnd2_some, if_pos rfl]; try rfl
      · unfold fX9_refusal
        rw [ew, bnd2_some, if_neg (by decide), ck_t hM.1, e2 M1 hM1.1, bnd2_some, if_pos rfl, sI_same, if_neg (by decide)]; try rfl
  by_cases z : y = 0
  · have := main 0 (Or.inl rfl)
    have e : fX8_refusal N Z 8 y x l (if tk then 1 else 0) M = fX8_refusal_22 N Z 8 y x l (if tk then 1 else 0) M := by unfold fX8_refusal; rw [if_pos z]
    rw [e, z]; exact this
  rcases in_cases y (lo := 2) (hi := 5) (by omega) (by omega) with ⟨v, rfl, g1, g2⟩ | ⟨e3, e4⟩
  · have := main v (Or.inr ⟨g1, g2⟩)
    have e : fX8_refusal N Z 8 (nI v) x l (if tk then 1 else 0) M = fX8_refusal_22 N Z 8 (nI v) x l (if tk then 1 else 0) M := by
      unfold fX8_refusal; rw [if_neg z, if_neg (by rw [i_2, i_lt (by omega) (by omega)]; omega), if_pos (by rw [i_5, i_le (by omega) (by omega)]; exact g2)]
    rw [e]; exact this
  · refine OpOK.of_no (k := 1) ⟨by omega, by omega, by decide +kernel⟩ wS (CK.bad hS ?_) (MK.bad (fun M1 hM1 => ?_))
    · unfold fX8_refusal; rw [if_neg z]; exact thr2 e4
    · unfold fX9_refusal fX9_isWhat
      rw [if_neg z, show fX9_in N Z y (2 : Int32) (5 : Int32) M1 = some (0, M1) from e3 N Z M1, bnd2_some, if_pos rfl, bnd2_some, if_pos rfl, ck_t hM.1, sI_same, if_neg (by decide)]; try rfl
end OJ
