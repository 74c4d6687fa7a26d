/-! ===== LAYER 3: calls: what both answer ===== -/
abbrev Out : Type := Int32 ⊕ Nat
def oC (nm : Nat → String) : Out → Int32 ⊕ String
  | .inl v => .inl v
  | .inr k => .inr (nm k)
def oT : Out → Nat
  | .inl _ => 0
  | .inr k => k
def CS (M : mM) (σ : St) : Prop := CI M σ.1 σ.2.1 σ.2.2.1 σ.2.2.2.1 σ.2.2.2.2.1 σ.2.2.2.2.2.1 σ.2.2.2.2.2.2.1 σ.2.2.2.2.2.2.2
def MS (M : mM) (σ : St) : Prop := MI M σ.1 σ.2.1 σ.2.2.1 σ.2.2.2.1 σ.2.2.2.2.1 σ.2.2.2.2.2.1 σ.2.2.2.2.2.2.1 σ.2.2.2.2.2.2.2
def WS (c : Nat) (σ : St) : Prop := WFs c σ.1 σ.2.1 σ.2.2.1 σ.2.2.2.1
theorem WS.mono {c c' : Nat} {σ : St} (h : WS c σ) (h1 : c ≤ c') (h2 : c' ≤ 1000000) : WS c' σ := ⟨h.1.mono h1 h2, fun S hS => (h.2.1 S hS).mono h1 h2, fun i hi => (h.2.2 i hi).mono h1 h2⟩
/-- the class's call, the reference's call -/
def CK (M : mM) (o : Out) (nm : Nat → String) (σ' : St) (RC : Option ((Int32 ⊕ String) × mM)) : Prop := ∃ M1, RC = some (oC nm o, M1) ∧ Cl M M1 ∧ CS M1 σ'
def MK (σ : St) (o : Out) (σ' : St) (RM : mM → Option (Int32 × mM)) : Prop := ∀ M1, MS M1 σ → ∃ b M2, RM M1 = some (b, M2) ∧ Mo M1 M2 ∧ M2.1 116 9 = nI (oT o) ∧ (∀ v, o = .inl v → b = v) ∧ MS M2 σ'
/-- k is the first number with its name -/
abbrev fstN (nm : Nat → String) (k : Nat) : Prop := ∀ j, j < k → 1 ≤ j → nm j ≠ nm k
def OpOK (M : mM) (σ : St) (c' : Nat) (RC : Option ((Int32 ⊕ String) × mM)) (RM : mM → Option (Int32 × mM)) (nm : Nat → String) : Prop :=
  ∃ (o : Out) (σ' : St), CK M o nm σ' RC ∧ MK σ o σ' RM ∧ (∀ k, o = .inr k → 1 ≤ k ∧ k ≤ 3 ∧ fstN nm k) ∧ WS c' σ'
def IAE : String := "java/lang/IllegalArgumentException"
def ISE : String := "java/lang/IllegalStateException"
def IOO : String := "java/lang/IndexOutOfBoundsException"
def UOE : String := "java/lang/UnsupportedOperationException"
def NSE : String := "java/util/NoSuchElementException"
theorem OpOK.of_no {M : mM} {σ : St} {c' k : Nat} {RC : Option ((Int32 ⊕ String) × mM)} {RM : mM → Option (Int32 × mM)} {nm : Nat → String} (hk : 1 ≤ k ∧ k ≤ 3 ∧ fstN nm k) (w : WS c' σ) (hC : CK M (.inr k) nm σ RC) (hM : MK σ (.inr k) σ RM) : OpOK M σ c' RC RM nm :=
  ⟨.inr k, σ, hC, hM, fun k' h => by cases h; exact hk, w⟩
theorem OpOK.of_yes {M : mM} {σ σ' : St} {c' : Nat} {RC : Option ((Int32 ⊕ String) × mM)} {RM : mM → Option (Int32 × mM)} {nm : Nat → String} (v : Int32) (w : WS c' σ') (hC : CK M (.inl v) nm σ' RC) (hM : MK σ (.inl v) σ' RM) : OpOK M σ c' RC RM nm :=
  ⟨.inl v, σ', hC, hM, fun k' h => (by cases h), w⟩
theorem MS.thr {M : mM} {σ : St} (h : MS M σ) (v : Int32) : MS (sI M 116 9 v) σ :=
  ⟨h.1.fr (Fr.put (P := fun a j => a = 116 ∧ j = 9) ⟨rfl, rfl⟩) (fun j => by omega), h.2.fr (Fr.put (P := fun a j => a = 116 ∧ j = 9) ⟨rfl, rfl⟩) (fun a j e => by unfold onMr; omega)⟩
theorem mo_thr {M : mM} {v : Int32} : Mo M (sI M 116 9 v) := (Fr.put (P := fun a j => a = 116 ∧ j = 9) ⟨rfl, rfl⟩).mo (fun a j e => by omega)
/-- the reference refuses at once -/
theorem MK.bad {σ : St} {k : Nat} {RM : mM → Option (Int32 × mM)} (h : ∀ M1, MS M1 σ → RM M1 = some (0, sI M1 116 9 (nI k))) : MK σ (.inr k) σ RM :=
  fun M1 hM => ⟨0, sI M1 116 9 (nI k), h M1 hM, mo_thr, sI_same _ _ _ _, fun v e => (by cases e), hM.thr _⟩
theorem CK.bad {M : mM} {σ : St} {k : Nat} {nm : Nat → String} {RC : Option ((Int32 ⊕ String) × mM)} (h : CS M σ) (hr : RC = some (.inr (nm k), sT M)) : CK M (.inr k) nm σ RC := ⟨sT M, hr, fun _ _ _ => rfl, h⟩
theorem CK.bad' {M M1 : mM} {σ : St} {k : Nat} {nm : Nat → String} {RC : Option ((Int32 ⊕ String) × mM)} (h : CS M1 σ) (hc : Cl M M1) (hr : RC = some (.inr (nm k), sT M1)) : CK M (.inr k) nm σ RC := ⟨sT M1, hr, hc, h⟩
theorem CK.same {M : mM} {σ : St} {v : Int32} {nm : Nat → String} {RC : Option ((Int32 ⊕ String) × mM)} (h : CS M σ) (hr : RC = some (.inl v, M)) : CK M (.inl v) nm σ RC := ⟨M, hr, Cl.rfl, h⟩
/-- the reference answers, with 'thrown' set ahead -/
theorem MK.same {σ : St} {v : Int32} {RM : mM → Option (Int32 × mM)} (h : ∀ M1, MS M1 σ → RM M1 = some (v, sI M1 116 9 (nI 0))) : MK σ (.inl v) σ RM :=
  fun M1 hM => ⟨v, sI M1 116 9 (nI 0), h M1 hM, mo_thr, sI_same _ _ _ _, fun v' e => by cases e; rfl, hM.thr _⟩
theorem thr2 {α : Type} {x lo hi : Int32} {T B : α} (h : x < lo ∨ (¬ x < lo ∧ ¬ x ≤ hi)) : (if x < lo then T else if x ≤ hi then B else T) = T := by
  rcases h with h | ⟨h1, h2⟩
  · rw [if_pos h]
  · rw [if_neg h1, if_neg h2]
theorem not_le0 {k : Nat} (h : 1 ≤ k) (h2 : k < 2147483648) : ¬ nI k ≤ 0 := by rw [i_0, i_le h2 (by omega)]; omega
section OP
variable {N : Nat} {Z : mZ} {M : mM} {A : Row} {c : Nat} {sv : Option Row} {H : Nat → Row} {n : Nat} {rp : Nat → Nat × Nat} {r : Nat} {tx : Nat → Nat} {len : Nat}
theorem place_cases (hC : ClsAt Z) (hM : ModAt Z) (w : WF A c) (x : Int32) : (∃ p, x = nI p ∧ p < A 0) ∨ ((∀ M, RelP M 9 A → fX4_hasPlace N Z 9 x M = some (0, M)) ∧ (∀ M, RowAt M 117 A → fX9_isPlace N Z 116 x M = some (0, M))) := by
  rcases i32_cases x with h | ⟨p, hp, rfl⟩
  · exact Or.inr ⟨fun M _ => k_hasPlaceN x h, fun M _ => m_isPlaceN hM h⟩
  · by_cases q : p < A 0
    · exact Or.inl ⟨p, rfl, q⟩
    · exact Or.inr ⟨fun M hR => by rw [k_hasPlace hC.2.2.1.1 hR w p hp, if_neg q], fun M hR => by rw [m_isPlace hM w hR hp, if_neg q]⟩
theorem place_k (hC : ClsAt Z) (w : WF A c) {p : Nat} (hp : p < A 0) {M : mM} (hR : RelP M 9 A) : fX4_hasPlace N Z 9 (nI p) M = some (1, M) := by
  have h1 := w.1
  rw [k_hasPlace hC.2.2.1.1 hR w p (by omega), if_pos hp]
theorem place_m (hM : ModAt Z) (w : WF A c) {p : Nat} (hp : p < A 0) {M : mM} (hR : RowAt M 117 A) : fX9_isPlace N Z 116 (nI p) M = some (1, M) := by
  have h1 := w.1
  rw [m_isPlace hM w hR (by omega), if_pos hp]
/-! fewestTies, tieLevels, missing -/
theorem op_fewest (hN : 5000 ≤ N) (hC : ClsAt Z) (hM : ModAt Z) (w : WFs c A sv H n) (h : CI M A sv H n rp r tx len) (x : Int32) : OpOK M (A, sv, H, n, rp, r, tx, len) c (fX8_fewestTies N Z 8 x M) (fX9_fewestTies N Z 116 x) (fun _ => IAE) := by
  have hS : CS M (A, sv, H, n, rp, r, tx, len) := h
  have wS : WS c (A, sv, H, n, rp, r, tx, len) := w
  rcases in_cases x (lo := 0) (hi := 12) (by omega) (by omega) with ⟨v, rfl, h1, h2⟩ | ⟨e1, e2⟩
  · have hl := lt_some w.1 h2
    refine OpOK.of_yes (nI (pc (aLt A v))) wS (CK.same hS ?_) (MK.same (fun M1 hM1 => ?_))
    · unfold fX8_fewestTies
      rw [if_neg (nI_pos (by omega)), if_pos (by rw [i_12, i_le (by omega) (by omega)]; exact h2), ck_t hC.1, k_least hN hC w.1 h.1 h2, bnd2_some, k_bitCount hl.2, bnd2_some]
    · have t := hM1.thr (nI 0)
      unfold fX9_fewestTies
      rw [show fX9_in N Z (nI v) (0 : Int32) (12 : Int32) M1 = some (1, M1) from in_yes (lo := 0) (hi := 12) h1 h2 (by omega), bnd2_some, if_neg (by decide), ck_t hM.1, sI_same, if_pos (by decide)]
      show bnd2 (fX9_leastTies N Z 116 (nI v) (sI M1 116 9 (nI 0))) _ = _
      rw [m_least hN hM w.1 t.1 h2, bnd2_some, m_bits hN hl.2, bnd2_some]
  · refine OpOK.of_no (k := 1) ⟨by omega, by omega, by decide +kernel⟩ wS (CK.bad hS ?_) (MK.bad (fun M1 hM1 => ?_))
    · unfold fX8_fewestTies; exact thr2 e2
    · unfold fX9_fewestTies
      rw [show fX9_in N Z x (0 : Int32) (12 : Int32) M1 = some (0, M1) from e1 N Z M1, bnd2_some, if_pos rfl, ck_t hM.1, sI_same, if_neg (by decide)]; try rfl
theorem op_tieLevels (hN : 5000 ≤ N) (hC : ClsAt Z) (hM : ModAt Z) (w : WFs c A sv H n) (h : CI M A sv H n rp r tx len) (x : Int32) : OpOK M (A, sv, H, n, rp, r, tx, len) c (fX8_tieLevels N Z 8 x M) (fX9_tieLevels N Z 116 x) (fun _ => IAE) := by
  have hS : CS M (A, sv, H, n, rp, r, tx, len) := h
  have wS : WS c (A, sv, H, n, rp, r, tx, len) := w
  rcases in_cases x (lo := 0) (hi := 12) (by omega) (by omega) with ⟨v, rfl, h1, h2⟩ | ⟨e1, e2⟩
  · have hl := lt_some w.1 h2
    refine OpOK.of_yes (nI (aLt A v)) wS (CK.same hS ?_) (MK.same (fun M1 hM1 => ?_))
    · unfold fX8_tieLevels
      rw [if_neg (nI_pos (by omega)), if_pos (by rw [i_12, i_le (by omega) (by omega)]; exact h2), ck_t hC.1, k_least hN hC w.1 h.1 h2, bnd2_some]
    · have t := hM1.thr (nI 0)
      unfold fX9_tieLevels
      rw [show fX9_in N Z (nI v) (0 : Int32) (12 : Int32) M1 = some (1, M1) from in_yes (lo := 0) (hi := 12) h1 h2 (by omega), bnd2_some, if_neg (by decide), ck_t hM.1, sI_same, if_pos (by decide)]
      show bnd2 (fX9_leastTies N Z 116 (nI v) (sI M1 116 9 (nI 0))) _ = _
      rw [m_least hN hM w.1 t.1 h2, bnd2_some]
  · refine OpOK.of_no (k := 1) ⟨by omega, by omega, by decide +kernel⟩ wS (CK.bad hS ?_) (MK.bad (fun M1 hM1 => ?_))
    · unfold fX8_tieLevels; exact thr2 e2
    · unfold fX9_tieLevels
      rw [show fX9_in N Z x (0 : Int32) (12 : Int32) M1 = some (0, M1) from e1 N Z M1, bnd2_some, if_pos rfl, ck_t hM.1, sI_same, if_neg (by decide)]; try rfl
theorem op_missing (hN : 5000 ≤ N) (hC : ClsAt Z) (hM : ModAt Z) (w : WFs c A sv H n) (h : CI M A sv H n rp r tx len) (x y : Int32) : OpOK M (A, sv, H, n, rp, r, tx, len) c (fX8_missing N Z 8 x y M) (fX9_missing N Z 116 x y) (fun _ => IAE) := by
  have hS : CS M (A, sv, H, n, rp, r, tx, len) := h
  have wS : WS c (A, sv, H, n, rp, r, tx, len) := w
  have i15 : ∀ a, inP 15 a → onSc a := fun a e => by have := e.1; have := e.2; unfold onSc; omega
  have badM : ∀ M1, (if ((sI M1 116 9 (1 : Int32)).1 116 9) ≤ 0 then fX9_missing_42 N Z N 116 x y (0 : Int32) (0 : Int32) (sI M1 116 9 (1 : Int32)) else some ((0 : Int32), (sI M1 116 9 (1 : Int32)))) = some (0, sI M1 116 9 (nI 1)) := fun M1 => by
    rw [sI_same, if_neg (by decide)]; try rfl
  rcases in_cases x (lo := 0) (hi := 1) (by omega) (by omega) with ⟨k, rfl, h1, h2⟩ | ⟨e1, e2⟩
  · have ek : fX8_missing N Z 8 (nI k) y M = fX8_missing_17 N Z 8 (nI k) y M := by
      unfold fX8_missing
      rcases (show k = 0 ∨ k = 1 by omega) with rfl | rfl
      · rw [if_pos (show nI 0 = 0 from rfl)]
      · rw [if_neg (by decide), if_pos (show nI 1 = (1 : Int32) from rfl)]
    rw [ek]
    rcases in_cases y (lo := 0) (hi := 6) (by omega) (by omega) with ⟨v, rfl, h3, h4⟩ | ⟨e3, e4⟩
    · obtain ⟨M1, x1, x2⟩ := k_missing (N := N) hN hC w.1 h.1 h2 h4
      refine OpOK.of_yes (nI (aMs A k v)) wS ⟨M1, x1, x2.cl (fun a e => onSc_cl (i15 a e)), h.sc x2.fr (fun a j e => i15 a e)⟩ (MK.same (fun M1 hM1 => ?_))
      have t := hM1.thr (nI 0)
      have g1 := w.1.1
      have e42 := m_missing42 (N := N) hM w.1 t.1 h2 h4 (A 0) 0 N (by omega) (by omega)
      unfold fX9_missing
      rw [show fX9_in N Z (nI k) (0 : Int32) (1 : Int32) M1 = some (1, M1) from in_yes (lo := 0) (hi := 1) h1 h2 (by omega), bnd2_some, if_neg (by decide), show fX9_in N Z (nI v) (0 : Int32) (6 : Int32) M1 = some (1, M1) from in_yes (lo := 0) (hi := 6) h3 h4 (by omega), bnd2_some, if_neg (by decide), ck_t hM.1, sI_same, if_pos (by decide)]
      exact e42
    · refine OpOK.of_no (k := 1) ⟨by omega, by omega, by decide +kernel⟩ wS (CK.bad hS ?_) (MK.bad (fun M1 hM1 => ?_))
      · unfold fX8_missing_17; exact thr2 e4
      · unfold fX9_missing
        rw [show fX9_in N Z (nI k) (0 : Int32) (1 : Int32) M1 = some (1, M1) from in_yes (lo := 0) (hi := 1) h1 h2 (by omega), bnd2_some, if_neg (by decide), show fX9_in N Z y (0 : Int32) (6 : Int32) M1 = some (0, M1) from e3 N Z M1, bnd2_some, if_pos rfl, ck_t hM.1]
        exact badM M1
  · refine OpOK.of_no (k := 1) ⟨by omega, by omega, by decide +kernel⟩ wS (CK.bad hS ?_) (MK.bad (fun M1 hM1 => ?_))
    · unfold fX8_missing
      have z0 : ¬ x = 0 := fun e => by subst e; exact e2.elim (fun a => absurd a (by decide)) (fun a => a.2 (by decide))
      have z1 : ¬ x = (1 : Int32) := fun e => by subst e; exact e2.elim (fun a => absurd a (by decide)) (fun a => a.2 (by decide))
      rw [if_neg z0, if_neg z1]; try rfl
    · unfold fX9_missing
      rw [show fX9_in N Z x (0 : Int32) (1 : Int32) M1 = some (0, M1) from e1 N Z M1, bnd2_some, if_pos rfl, ck_t hM.1]
      exact badM M1
/-! dismantling, work -/
theorem onDm_mr {a j : Nat} (h : onDm a j) : onMr a j := by unfold onDm onDw onA at h; unfold onMr; omega
theorem CI.dis {M M' : mM} (h : CI M A sv H n rp r tx len) (s : Same (inR 93 113) M M') (hd : M'.1 93 2 = 1 ∧ DisR M' A) : CI M' A sv H n rp r tx len :=
  ⟨h.1.same s (fun a b1 b2 b3 => by have := b3.1; omega), Or.inr hd, h.2.2.fr s.fr (fun a j e => by have := e.1; have := e.2; unfold onCr; omega)⟩
theorem op_dismantling (hN : 5000 ≤ N) (hC : ClsAt Z) (hM : ModAt Z) (hs : Stat Z M) (w : WFs c A sv H n) (hc : c + 300 ≤ 1000000) (h : CI M A sv H n rp r tx len) : OpOK M (A, sv, H, n, rp, r, tx, len) c (fX8_dismantling N Z 8 M) (fX9_dismantling N Z 116) (fun _ => NSE) := by
  have hS : CS M (A, sv, H, n, rp, r, tx, len) := h
  have wS : WS c (A, sv, H, n, rp, r, tx, len) := w
  obtain ⟨M1, x1, x2, x3, x4⟩ := d_update (N := N) hN hC w.1 hc hs h.1 h.2.1
  have I1 := h.dis x2 ⟨x3, x4⟩
  have cl1 : Cl M M1 := x2.cl (fun a e => by have := e.1; have := e.2; omega)
  obtain ⟨o8, ⟨r0, r1, r2, r4, r5, r6, r7, r8, r9, r10⟩, -, -, -, -, -, -, hD, -⟩ := hC
  have st : ∀ res, (if (M1.1 93 1) = 0 then some (.inr "java/util/NoSuchElementException", sT M1) else some (.inl (M1.1 93 0), M1)) = some res → fX8_dismantling N Z 8 M = some res := fun res hh => by
    unfold fX8_dismantling
    rw [ck_t o8, r9, bnd1_some, r0, bnd1_some, ck_t hD.1, x1, bnd2_some]
    exact hh
  have hm : ∀ M2, MS M2 (A, sv, H, n, rp, r, tx, len) → ∃ M3, fX9_dismantles N Z 116 M2 = some (if lvs (dsR 300 A) = 0 then 1 else 0, M3) ∧ Mo M2 M3 ∧ MS M3 (A, sv, H, n, rp, r, tx, len) ∧ M3.1 116 16 = nI (dsL 300 A).length := fun M2 hM2 => by
    obtain ⟨M3, y1, y2, y3, y4, -⟩ := m_dismantles (N := N) hN hM w.1 hc hM2.1
    exact ⟨M3, y1, y2.mo (fun a j e => by unfold onDm onDw onA at e; omega), ⟨y3, hM2.2.fr y2 (fun a j e => onDm_mr e)⟩, y4⟩
  have hcp : M1.1 93 1 = if lvs (dsR 300 A) = 0 then 1 else 0 := by
    rw [x4.2.1]; unfold cplI
    by_cases q : lvs (dsR 300 A) = 0
    · rw [if_pos q, if_pos ((pieces1 _).2 q)]
    · rw [if_neg q, if_neg (fun e => q ((pieces1 _).1 e))]
  by_cases q : lvs (dsR 300 A) = 0
  · rw [if_pos q] at hcp
    refine OpOK.of_yes (nI (dsL 300 A).length) wS ⟨M1, st _ (by rw [if_neg (by rw [hcp]; decide), x4.1]; try rfl), cl1, I1⟩ (fun M2 hM2 => ?_)
    obtain ⟨M3, y1, y2, y3, y4⟩ := hm M2 hM2
    rw [if_pos q] at y1
    refine ⟨_, sI M3 116 9 (nI 0), ?_, y2.trans mo_thr, sI_same _ _ _ _, fun v e => by cases e; rfl, y3.thr _⟩
    unfold fX9_dismantling
    rw [ck_t hM.1, y1, bnd2_some, if_neg (by decide), sI_same, if_pos (by decide), sI_ne _ _ (show ¬ ((116 : Nat) = 116 ∧ (16 : Nat) = 9) by omega), y4]; try rfl
  · rw [if_neg q] at hcp
    refine OpOK.of_no (k := 1) ⟨by omega, by omega, by decide +kernel⟩ wS (CK.bad' I1 cl1 (st _ (by rw [if_pos hcp]; try rfl))) (fun M2 hM2 => ?_)
    obtain ⟨M3, y1, y2, y3, y4⟩ := hm M2 hM2
    rw [if_neg q] at y1
    refine ⟨0, sI M3 116 9 (nI 1), ?_, y2.trans mo_thr, sI_same _ _ _ _, fun v e => (by cases e), y3.thr _⟩
    unfold fX9_dismantling
    rw [ck_t hM.1, y1, bnd2_some, if_pos rfl, sI_same, if_neg (by decide)]; try rfl
theorem kept_at {M : mM} {ref : Nat} {L : List (Nat × Nat × Nat)} (h : KeptL M ref 0 L) {i p : Nat} (hi : i < L.length) (hp : p < 3) : M.1 ref (3 * i + p) = nI (if p = 0 then (L[i]'hi).1 else if p = 1 then (L[i]'hi).2.1 else (L[i]'hi).2.2) := by
  have hq := h i (L[i]'hi) (List.getElem?_eq_getElem hi)
  rw [Nat.zero_add] at hq
  rcases (show p = 0 ∨ p = 1 ∨ p = 2 by omega) with rfl | rfl | rfl
  · exact hq.1
  · exact hq.2.1
  · exact hq.2.2
theorem op_work (hN : 5000 ≤ N) (hC : ClsAt Z) (hM : ModAt Z) (hs : Stat Z M) (w : WFs c A sv H n) (hc : c + 300 ≤ 1000000) (h : CI M A sv H n rp r tx len) (x y : Int32) : OpOK M (A, sv, H, n, rp, r, tx, len) c (fX8_work N Z 8 x y M) (fX9_work N Z 116 x y) (fun k => if k = 1 then IAE else IOO) := by
  have hS : CS M (A, sv, H, n, rp, r, tx, len) := h
  have wS : WS c (A, sv, H, n, rp, r, tx, len) := w
  have fail : ∀ (M1 : mM) (k : Nat), fX9_fails N Z 116 (nI k) M1 = some (0, sI M1 116 9 (nI k)) := fun M1 k => m_fails hM _
  rcases i32_cases y with hy | ⟨p, hp, rfl⟩
  · refine OpOK.of_no (k := 1) ⟨by omega, by omega, by decide +kernel⟩ wS (CK.bad hS ?_) (fun M1 hM1 => ⟨0, sI (sI M1 116 9 (nI 0)) 116 9 (nI 1), ?_, mo_thr.trans mo_thr, sI_same _ _ _ _, fun v e => (by cases e), (hM1.thr _).thr _⟩)
    · unfold fX8_work; rw [if_pos hy]; try rfl
    · unfold fX9_work fX9_in
      rw [ck_t hM.1, if_pos hy, bnd2_some, if_pos rfl, show fX9_fails N Z 116 (1 : Int32) (sI M1 116 9 (0 : Int32)) = some (0, sI (sI M1 116 9 (nI 0)) 116 9 (nI 1)) from fail _ 1, bnd2_some]
  by_cases hp3 : p < 3
  · obtain ⟨M1, x1, x2, x3, x4⟩ := d_update (N := N) hN hC w.1 hc hs h.1 h.2.1
    have I1 := h.dis x2 ⟨x3, x4⟩
    have cl1 : Cl M M1 := x2.cl (fun a e => by have := e.1; have := e.2; omega)
    have hlen := dsL_len 300 A
    have hm : ∀ M2, MS M2 (A, sv, H, n, rp, r, tx, len) → ∃ b M3, fX9_dismantles N Z 116 M2 = some (b, M3) ∧ Mo M2 M3 ∧ MS M3 (A, sv, H, n, rp, r, tx, len) ∧ M3.1 116 16 = nI (dsL 300 A).length ∧ KeptL M3 125 0 (dsL 300 A) ∧ M3.1 116 9 = M2.1 116 9 := fun M2 hM2 => by
      obtain ⟨M3, y1, y2, y3, y4, y5⟩ := m_dismantles (N := N) hN hM w.1 hc hM2.1
      exact ⟨_, M3, y1, y2.mo (fun a j e => by unfold onDm onDw onA at e; omega), ⟨y3, hM2.2.fr y2 (fun a j e => onDm_mr e)⟩, y4, y5, y2.1 116 9 (fun e => by unfold onDm onDw onA at e; omega)⟩
    have C := hC
    obtain ⟨o8, ⟨r0, r1, r2, r4, r5, r6, r7, r8, r9, r10⟩, -, -, -, -, -, -, hD, -⟩ := hC
    have st : ∀ res, (if x < 0 then some (.inr "java/lang/IndexOutOfBoundsException", sT M1) else if x < (M1.1 93 0) then bnd2 (fX8_at N Z 94 ((x * (3 : Int32)) + nI p) M1) (fun r11 M11 => some (.inl r11, M11)) else some (.inr "java/lang/IndexOutOfBoundsException", sT M1)) = some res → fX8_work N Z 8 x (nI p) M = some res := fun res hh => by
      unfold fX8_work
      rw [if_neg (nI_pos (by omega)), if_pos (by rw [i_3, i_lt (by omega) (by omega)]; exact hp3), ck_t o8, r9, bnd1_some, r0, bnd1_some, ck_t hD.1, x1, bnd2_some, hD.2.1, bnd1_some]
      exact hh
    have stm : ∀ M2, ∀ b M3, fX9_dismantles N Z 116 (sI M2 116 9 (nI 0)) = some (b, M3) → M3.1 116 16 = nI (dsL 300 A).length → ∀ res, bnd2 (fX9_in N Z x (0 : Int32) (nI (dsL 300 A).length - (1 : Int32)) M3) (fun r6 M6 => if r6 = 0 then bnd2 (fX9_fails N Z 116 (2 : Int32) M6) (fun r8 M8 => some (r8, M8)) else bnd1 (Z.2.2.2 116 15) (fun c9 => ck (okI Z c9) (ck (inB (((3 : Int32) * x) + nI p) (Z.2.2.1 c9)) (some ((M6.1 c9 ((((3 : Int32) * x) + nI p)).toNatClampNeg), M6))))) = some res → fX9_work N Z 116 x (nI p) M2 = some res := fun M2 b M3 y1 y4 res hh => by
      unfold fX9_work
      rw [ck_t hM.1, show fX9_in N Z (nI p) (0 : Int32) (2 : Int32) (sI M2 116 9 (0 : Int32)) = some (1, sI M2 116 9 (0 : Int32)) from in_yes (lo := 0) (hi := 2) (by omega) (by omega) (by omega), bnd2_some, if_neg (by decide), show fX9_dismantles N Z 116 (sI M2 116 9 (0 : Int32)) = some (b, M3) from y1, bnd2_some, y4]
      exact hh
    have bad : (∀ (M3 : mM), fX9_in N Z x (0 : Int32) (nI (dsL 300 A).length - (1 : Int32)) M3 = some (0, M3)) → (x < 0 ∨ (¬ x < 0 ∧ ¬ x < nI (dsL 300 A).length)) → OpOK M (A, sv, H, n, rp, r, tx, len) c (fX8_work N Z 8 x (nI p) M) (fX9_work N Z 116 x (nI p)) (fun k => if k = 1 then IAE else IOO) := fun hin hx => by
      refine OpOK.of_no (k := 2) ⟨by omega, by omega, by decide +kernel⟩ wS (CK.bad' I1 cl1 (st _ ?_)) (fun M2 hM2 => ?_)
      · rcases hx with hx | ⟨hx, hx2⟩
        · rw [if_pos hx]; try rfl
        · rw [if_neg hx, x4.1, if_neg hx2]; try rfl
      · obtain ⟨b, M3, y1, y2, y3, y4, -, -⟩ := hm (sI M2 116 9 (nI 0)) (hM2.thr _)
        refine ⟨0, sI M3 116 9 (nI 2), stm M2 b M3 y1 y4 _ ?_, (mo_thr.trans y2).trans mo_thr, sI_same _ _ _ _, fun v e => (by cases e), y3.thr _⟩
        rw [hin, bnd2_some, if_pos rfl, show fX9_fails N Z 116 (2 : Int32) M3 = some (0, sI M3 116 9 (nI 2)) from fail _ 2, bnd2_some]
    rcases i32_cases x with hx | ⟨i, hi, rfl⟩
    · exact bad (fun M3 => by unfold fX9_in; rw [if_pos hx]) (Or.inl hx)
    · by_cases q : i < (dsL 300 A).length
      · have hk := fun M3 ref (hh : KeptL M3 ref 0 (dsL 300 A)) => kept_at hh q hp3
        refine OpOK.of_yes (M1.1 94 (3 * i + p)) wS ⟨M1, st _ ?_, cl1, I1⟩ (fun M2 hM2 => ?_)
        · obtain ⟨-, -, -, -, -, -, ⟨a4, a5, a6⟩, -⟩ := hD
          rw [if_neg (nI_pos (by omega)), x4.1, if_pos (by rw [i_lt (by omega) (by omega)]; exact q), i_3, pk_mul, nI_add, Nat.mul_comm i 3, k_at a5 (by omega) (by omega), bnd2_some]; try rfl
        · obtain ⟨b, M3, y1, y2, y3, y4, y5, y6⟩ := hm (sI M2 116 9 (nI 0)) (hM2.thr _)
          refine ⟨M3.1 125 (3 * i + p), M3, stm M2 b M3 y1 y4 _ ?_, mo_thr.trans y2, by rw [y6, sI_same]; rfl, fun v e => by cases e; rw [hk M1 94 x4.2.2, hk M3 125 y5], y3⟩
          obtain ⟨o1, ⟨-, -, -, -, -, -, -, -, r15, -⟩, -, -, -, -, -, -, -, -, ⟨a4, a5, a6⟩, -⟩ := hM
          rw [show nI (dsL 300 A).length - (1 : Int32) = nI ((dsL 300 A).length - 1) from i_sub (b := 1) (by omega), show fX9_in N Z (nI i) (0 : Int32) (nI ((dsL 300 A).length - 1)) M3 = some (1, M3) from in_yes (lo := 0) (by omega) (by omega) (by omega), bnd2_some, if_neg (by decide), r15, bnd1_some, ck_t a5, i_3, pk_mul, nI_add, a6, ck_t (by rw [i_inB (by omega)]; exact decide_eq_true (by omega)), i_cl (by omega)]
      · refine bad (fun M3 => ?_) (Or.inr ⟨nI_pos (by omega), by rw [i_lt (by omega) (by omega)]; exact q⟩)
        by_cases z : (dsL 300 A).length = 0
        · rw [z]
          unfold fX9_in
          rw [if_neg (nI_pos (by omega)), if_pos (by rw [Int32.lt_iff_toInt_lt, nI_toInt (by omega)]; have : (nI 0 - 1 : Int32).toInt = -1 := rfl; omega)]
        · rw [show nI (dsL 300 A).length - (1 : Int32) = nI ((dsL 300 A).length - 1) from i_sub (b := 1) (by omega), show fX9_in N Z (nI i) (0 : Int32) (nI ((dsL 300 A).length - 1)) M3 = some (if 0 ≤ i ∧ i ≤ (dsL 300 A).length - 1 then 1 else 0, M3) from m_in (l := 0) (by omega) (by omega) (by omega), if_neg (by omega)]
  · refine OpOK.of_no (k := 1) ⟨by omega, by omega, by decide +kernel⟩ wS (CK.bad hS ?_) (fun M1 hM1 => ⟨0, sI (sI M1 116 9 (nI 0)) 116 9 (nI 1), ?_, mo_thr.trans mo_thr, sI_same _ _ _ _, fun v e => (by cases e), (hM1.thr _).thr _⟩)
    · unfold fX8_work; rw [if_neg (nI_pos (by omega)), if_neg (by rw [i_3, i_lt (by omega) (by omega)]; exact hp3)]; try rfl
    · unfold fX9_work
      rw [ck_t hM.1, show fX9_in N Z (nI p) (0 : Int32) (2 : Int32) (sI M1 116 9 (0 : Int32)) = some (if 0 ≤ p ∧ p ≤ 2 then 1 else 0, sI M1 116 9 (0 : Int32)) from m_in (l := 0) (h := 2) (by omega) (by omega) (by omega), if_neg (by omega), bnd2_some, if_pos rfl, show fX9_fails N Z 116 (1 : Int32) (sI M1 116 9 (0 : Int32)) = some (0, sI (sI M1 116 9 (nI 0)) 116 9 (nI 1)) from fail _ 1, bnd2_some]
end OP
