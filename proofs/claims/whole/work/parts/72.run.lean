/-! ===== LAYER 3: commands that are carried out, the class ===== -/
def cmOkB (B : Row) (cm : Cmd) : Bool := decide (cm.2.1 < B 0) && (!decide (cm.1 = 2) || cm.2.2.2.2 || decide (1 ≤ cm.2.2.2.1 ∧ cm.2.2.2.1 ≤ 4))
def cmL' (B : Row) (cm : Cmd) : Nat := lvA B cm.1 cm.2.1 cm.2.2.1 cm.2.2.2.2
noncomputable def cmJ (B : Row) (cm : Cmd) : Option (Nat × Nat) := jst B cm.1 cm.2.1 (cmL' B cm) cm.2.2.2.1 cm.2.2.2.2
def cmDo (B : Row) (cm : Cmd) : Row := doA B cm.1 cm.2.1 (cmL' B cm) cm.2.2.2.1 cm.2.2.2.2
noncomputable def runN : Nat → Row → List Cmd → Option (Nat × Nat × Nat × Nat × Nat) ⊕ Row
  | _, B, [] => .inr B
  | k, B, cm :: L => if cmOkB B cm = true then (match cmJ B cm with
    | some q => .inl (some (k, cm.1, cm.2.1, q.1, q.2))
    | none => runN (k + 1) (cmDo B cm) L) else .inl none
theorem runN_bad {k : Nat} {B : Row} {cm : Cmd} {L : List Cmd} (h : cmOkB B cm = false) : runN k B (cm :: L) = .inl none := by
  unfold runN; rw [h, if_neg (by decide)]
theorem runN_no {k : Nat} {B : Row} {cm : Cmd} {L : List Cmd} {q : Nat × Nat} (h : cmOkB B cm = true) (h2 : cmJ B cm = some q) : runN k B (cm :: L) = .inl (some (k, cm.1, cm.2.1, q.1, q.2)) := by
  unfold runN; rw [h, if_pos rfl, h2]
theorem runN_go {k : Nat} {B : Row} {cm : Cmd} {L : List Cmd} (h : cmOkB B cm = true) (h2 : cmJ B cm = none) : runN k B (cm :: L) = runN (k + 1) (cmDo B cm) L := by
  rw [runN, h, if_pos rfl, h2]
theorem cmOk_p {B : Row} {cm : Cmd} (h : cmOkB B cm = true) : cm.2.1 < B 0 ∧ (cm.1 = 2 → cm.2.2.2.2 = false → 1 ≤ cm.2.2.2.1 ∧ cm.2.2.2.1 ≤ 4) := by
  unfold cmOkB at h
  rw [Bool.and_eq_true, decide_eq_true_iff, Bool.or_eq_true, Bool.or_eq_true] at h
  refine ⟨h.1, fun h2 h3 => ?_⟩
  rcases h.2 with (h4 | h4) | h4
  · rw [h2] at h4; exact absurd h4 (by decide)
  · rw [h3] at h4; cases h4
  · exact of_decide_eq_true h4
theorem txt_inv {tx : Nat → Nat} {len j q : Nat} {L : List Cmd} (h : txtN tx len j q = .inr L) : ∃ j' q' cm L', j = j' + 1 ∧ L = cm :: L' ∧ cmdN tx len q = (q', some cm) ∧ ((q' = len ∧ L' = []) ∨ (¬ q' = len ∧ isC tx len q' 59 = true ∧ txtN tx len j' (q' + 1) = .inr L')) := by
  cases j with
  | zero => cases h
  | succ j =>
    unfold txtN at h
    obtain ⟨rr, hr⟩ : ∃ rr, rr = cmdN tx len q := ⟨_, rfl⟩
    rw [← hr] at h ⊢
    obtain ⟨q', o⟩ := rr
    cases o with
    | none => cases h
    | some cm =>
      have h' : (if q' = len then (.inr [cm] : Nat ⊕ List Cmd) else if isC tx len q' 59 = true then (match txtN tx len j (q' + 1) with
        | .inl e => .inl e
        | .inr L => .inr (cm :: L)) else .inl q') = .inr L := h
      by_cases c : q' = len
      · rw [if_pos c] at h'
        cases h'
        exact ⟨j, q', cm, [], rfl, rfl, rfl, Or.inl ⟨c, rfl⟩⟩
      · rw [if_neg c] at h'
        by_cases c2 : isC tx len q' 59 = true
        · rw [if_pos c2] at h'
          cases ht : txtN tx len j (q' + 1) with
          | inl e => rw [ht] at h'; cases h'
          | inr L2 =>
            rw [ht] at h'
            cases h'
            exact ⟨j, q', cm, L2, rfl, rfl, rfl, Or.inr ⟨c, c2, ht⟩⟩
        · rw [if_neg c2] at h'; cases h'
theorem txt_len {tx : Nat → Nat} {len : Nat} : ∀ (j q : Nat) (L : List Cmd), txtN tx len j q = .inr L → L.length ≤ j ∧ 1 ≤ L.length ∧ ∀ cm ∈ L, CmOk cm
  | 0, _, _, h => by cases h
  | j + 1, q, L, h => by
    obtain ⟨j', q', cm, L', hj, rfl, hc, hh⟩ := txt_inv h
    have hj' : j' = j := by omega
    subst hj'
    have hok : CmOk cm := (cmdN_pos (tx := tx) (len := len) (q := q)).2.2 cm (by rw [hc])
    rw [List.length_cons]
    rcases hh with ⟨-, rfl⟩ | ⟨-, -, hh⟩
    · exact ⟨by show 0 + 1 ≤ j' + 1; omega, by show 1 ≤ 0 + 1; omega, fun c hc => by rw [List.mem_singleton.mp hc]; exact hok⟩
    · have := txt_len j' (q' + 1) L' hh
      refine ⟨by omega, by omega, fun c hc => ?_⟩
      rcases List.mem_cons.mp hc with rfl | hc
      · exact hok
      · exact this.2.2 c hc
def rpR (x : Nat × Nat × Nat × Nat × Nat) : Nat → Nat × Nat := fun i => if i = 0 then (9, x.1) else if i = 1 then (x.2.1, x.2.2.1) else (x.2.2.2.1, x.2.2.2.2)
section RU
variable {N : Nat} {Z : mZ} {A : Row} {sv : Option Row} {H : Nat → Row} {n : Nat} {rp : Nat → Nat × Nat} {r : Nat} {tx : Nat → Nat} {len : Nat}
theorem CI.txt {P : Nat → Nat → Prop} {M M' : mM} {len' : Nat} {tx' : Nat → Nat} (h : CI M A sv H n rp r tx len) (s : Fr P M M') (hd : ∀ a j, P a j → a = 114 ∨ a = 115 ∨ onSc a) (ht : ∃ q, TC M' tx' len' q) : CI M' A sv H n rp r tx' len' := by
  obtain ⟨g0, g1, g2, g3, g4, -⟩ := h
  have nd : ∀ a j, ¬ (a = 114 ∨ a = 115 ∨ onSc a) → ¬ P a j := fun a j hn hp => hn (hd a j hp)
  exact ⟨g0.fr s (fun a j b1 b2 => nd a j (by unfold onSc; omega)), g1.same (s.same (S := fun a => a = 114 ∨ a = 115 ∨ onSc a) hd) (by unfold onSc; omega) (by unfold onSc; omega), g2.fr s (nd _ _ (by unfold onSc; omega)) (fun a j b1 b2 => nd a j (by unfold onSc; omega)), g3.fr s (nd _ _ (by unfold onSc; omega)) (nd _ _ (by unfold onSc; omega)) (fun a j b1 b2 => nd a j (by unfold onSc; omega)), g4.fr s (fun a j b1 b2 => nd a j (by unfold onSc; omega)), ht⟩
theorem onX_tx {a j : Nat} (h : onX a j) : a = 114 ∨ a = 115 ∨ onSc a := by unfold onX at h; unfold onSc; omega
theorem tx_cl {a : Nat} (h : a = 114 ∨ a = 115 ∨ onSc a) : 8 ≤ a ∧ a ≤ 115 := by unfold onSc at h; omega
theorem x_inRange (hC : ClsAt Z) {c : Nat} (w : WF A c) {M : mM} (hR : RelP M 9 A) {cm : Cmd} (hj : CmAt M cm) (hok : CmOk cm) : fX8_isInRange N Z 8 89 M = some (if cmOkB A cm then 1 else 0, M) := by
  obtain ⟨o8, ⟨r0, -⟩, ⟨p9, -⟩, -, -, -, o89, -⟩ := hC
  obtain ⟨j0, j1, j2, j3, j4⟩ := hj
  obtain ⟨k0, k1, k2, k3⟩ := hok
  have e1 := k_hasPlace (N := N) p9 hR w cm.2.1 (by omega)
  have i2 : (nI cm.1 = (2 : Int32)) ↔ cm.1 = 2 := by rw [i_2, i_eq (by omega) (by omega)]
  unfold fX8_isInRange cmOkB
  rw [ck_t o8, r0, bnd1_some, ck_t o89, ck_t p9.1, j1, e1, bnd2_some, j0, j4]
  by_cases c1 : cm.2.1 < A 0
  · rw [if_pos c1, if_neg (by decide), show decide (cm.2.1 < A 0) = true from decide_eq_true c1, Bool.true_and]
    by_cases c2 : cm.1 = 2
    · rw [if_pos (i2.2 c2), show decide (cm.1 = 2) = true from decide_eq_true c2, Bool.not_true, Bool.false_or]
      cases htk : cm.2.2.2.2 with
      | true =>
        rw [if_neg (by decide)]
        unfold fX8_isInRange_36
        rw [if_pos rfl]; rfl
      | false =>
        rw [if_pos (by decide), Bool.false_or]
        unfold fX8_isInRange_36
        rw [if_neg (by decide), ck_t o89, j3]
        by_cases c3 : cm.2.2.2.1 < 1
        · rw [if_pos (by rw [i_1, i_lt (by omega) (by omega)]; exact c3), show decide (1 ≤ cm.2.2.2.1 ∧ cm.2.2.2.1 ≤ 4) = false from decide_eq_false (by omega)]; rfl
        · rw [if_neg (by rw [i_1, i_lt (by omega) (by omega)]; exact c3)]
          by_cases c4 : 4 < cm.2.2.2.1
          · rw [if_pos (by rw [i_4, i_lt (by omega) (by omega)]; exact c4), show decide (1 ≤ cm.2.2.2.1 ∧ cm.2.2.2.1 ≤ 4) = false from decide_eq_false (by omega)]; rfl
          · rw [if_neg (by rw [i_4, i_lt (by omega) (by omega)]; exact c4), show decide (1 ≤ cm.2.2.2.1 ∧ cm.2.2.2.1 ≤ 4) = true from decide_eq_true (by omega)]; rfl
    · rw [if_neg (fun e => c2 (i2.1 e)), show decide (cm.1 = 2) = false from decide_eq_false c2, Bool.not_false, Bool.true_or, Bool.true_or]
      unfold fX8_isInRange_36
      rw [if_pos rfl]; rfl
  · rw [if_neg c1, if_pos rfl, show decide (cm.2.1 < A 0) = false from decide_eq_false c1, Bool.false_and]; rfl
def RunC (M : mM) (A : Row) (sv : Option Row) (H : Nat → Row) (n : Nat) (rp : Nat → Nat × Nat) (r : Nat) (tx : Nat → Nat) (len T : Nat) (res : Option (Nat × Nat × Nat × Nat × Nat) ⊕ Row) (R : Option (Int32 × mM)) : Prop := match res with
  | .inr B' => ∃ M', R = some (nI T, M') ∧ Cl M M' ∧ CI M' B' sv (kpH H n A) (kpN n) rp r tx len
  | .inl none => ∃ M', R = some (-1, M') ∧ Cl M M' ∧ CI M' A sv H n rp r tx len
  | .inl (some x) => ∃ M', R = some (-1, M') ∧ Cl M M' ∧ CI M' A sv H n (rpR x) 3 tx len
theorem RunC.pre {M M1 : mM} {T : Nat} {res : Option (Nat × Nat × Nat × Nat × Nat) ⊕ Row} {R : Option (Int32 × mM)} (h : RunC M1 A sv H n rp r tx len T res R) (f : Cl M M1) : RunC M A sv H n rp r tx len T res R := by
  match res, h with
  | .inr B', h => obtain ⟨M', x1, x2, x3⟩ := h; exact ⟨M', x1, f.trans x2, x3⟩
  | .inl none, h => obtain ⟨M', x1, x2, x3⟩ := h; exact ⟨M', x1, f.trans x2, x3⟩
  | .inl (some x), h => obtain ⟨M', x1, x2, x3⟩ := h; exact ⟨M', x1, f.trans x2, x3⟩
theorem x_run (hN : 5000 ≤ N) (hC : ClsAt Z) {c0 : Nat} (wA : WF A c0) : ∀ (L : List Cmd) (j k q fu : Nat) (B : Row) (c : Nat) (M : mM), txtN tx len j q = .inr L → q ≤ len → L.length < fu → k + L.length ≤ 80 → RelP M 15 B → WF B c → c + L.length ≤ 1000000 → B 0 = A 0 → TC M tx len q → CI M A sv H n rp r tx len →
    RunC M A sv H n rp r tx len (k + L.length) (runN k B L) (fX8_carryOutCommands_21 N Z fu 8 (nI k) M) := by
  have C := hC
  obtain ⟨o8, ⟨r0, r1, r2, r4, r5, r6, r7, r8, r9, r10⟩, ⟨p9, p15, p21⟩, hH, y77, j82, o89, hRp, hD, hT⟩ := hC
  have T' : TxAt Z := hT
  intro L
  induction L with
  | nil =>
    intro j k q fu B c M ht
    obtain ⟨j', q', cm, L', -, h2, -⟩ := txt_inv ht
    cases h2
  | cons cm L ih =>
    intro j k q fu B c M ht hq hfu hk hR w hc h0 hTC hCI
    obtain ⟨j', q', cm', L', -, h2, hcm, hh⟩ := txt_inv ht
    cases h2
    obtain ⟨fu, rfl⟩ : ∃ q, fu = q + 1 := ⟨fu - 1, by omega⟩
    rw [List.length_cons] at hfu hk hc
    have h80 := hTC.2.2.2.1
    have hpos := cmdN_pos (tx := tx) (len := len) (q := q)
    obtain ⟨M1, e1, T1, F1, J1⟩ := x_command (N := N) T' o89 hTC (by omega)
    rw [hcm] at e1 T1 J1 hpos
    have hp2 : q + 2 ≤ q' ∧ q' ≤ len := hpos.2.1 (by simp)
    have hok : CmOk cm := hpos.2.2 cm rfl
    have J1 : CmAt M1 cm := J1 cm rfl
    have T1 : TC M1 tx len q' := T1
    have I1 := hCI.txt F1 (fun a j e => onX_tx e) ⟨q', T1⟩
    have R1 : RelP M1 15 B := hR.fr F1 (fun a j b1 b2 e => by unfold onX at e; omega)
    have cl1 : Cl M M1 := F1.cl (fun a j e => tx_cl (onX_tx e))
    have eok : cmOkB A cm = cmOkB B cm := by unfold cmOkB; rw [h0]
    have e2 := x_inRange (N := N) C wA I1.1 J1 hok
    rw [eok] at e2
    have st : fX8_carryOutCommands_21 N Z (fu + 1) 8 (nI k) M = (if (if cmOkB B cm = true then (1 : Int32) else 0) = 0 then some ((-1 : Int32), M1) else bnd2 (fX6_explore N Z 77 15 M1) (fun _ M24 => bnd2 (fX3_examine N Z 82 15 77 89 M24) (fun _ M27 => if (M27.1 82 0) = 0 then bnd2 (fX4_carryOut N Z 15 89 M27) (fun _ M30 => bnd2 (fX0_isPassed N Z 114 (59 : Int32) M30) (fun r31 M31 => if r31 = 0 then bnd2 (fX8_keepChange N Z 8 M31) (fun _ M33 => bnd2 (fX4_copyFrom N Z 9 15 M33) (fun _ M36 => some ((nI k + (1 : Int32)), M36))) else if (nI k + (1 : Int32)) < (80 : Int32) then fX8_carryOutCommands_21 N Z fu 8 (nI k + (1 : Int32)) M31 else bnd2 (fX8_keepChange N Z 8 M31) (fun _ M38 => bnd2 (fX4_copyFrom N Z 9 15 M38) (fun _ M41 => some ((nI k + (1 : Int32)), M41))))) else bnd2 (fX5_clear N Z 90 M27) (fun _ M44 => bnd2 (fX5_add N Z 90 (9 : Int32) (nI k) M44) (fun _ M45 => bnd2 (fX8_addRefusal N Z 8 M45) (fun _ M46 => some ((-1 : Int32), M46))))))) := by
      rw [fX8_carryOutCommands_21]
      simp only [ck_t o8, r10, bnd1_some, r7, ck_t T'.1, e1, bnd2_some, show ¬ (some cm = none) by simp, if_false, show ¬ ((1 : Int32) = 0) by decide, e2, r0, r1, r5, r6, r8, ck_t p9.1, ck_t p15.1, ck_t y77.1, ck_t j82.1, ck_t hRp.1]
    rw [st]
    refine RunC.pre ?_ cl1
    cases hb : cmOkB B cm with
    | false =>
      rw [if_pos (by decide), runN_bad hb]
      exact ⟨M1, rfl, Cl.rfl, I1⟩
    | true =>
      obtain ⟨hp, hcl⟩ := cmOk_p hb
      rw [if_neg (by decide)]
      obtain ⟨M2, e3, s3, Y3, -⟩ := w_explore (N := N) y77 p15 (by omega) w hN R1
      have f3 : ∀ a, inW 77 a → onSc a := fun a e => by have := e.1; have := e.2; unfold onSc; omega
      have I2 := I1.sc s3.fr (fun a j e => f3 a e)
      have R2 : RelP M2 15 B := R1.same s3 (fun a b1 b2 e => by have := e.1; omega)
      have J2 : JobX M2 89 cm.1 cm.2.1 (nI cm.2.2.1) cm.2.2.2.1 cm.2.2.2.2 := JobX.fr J1 s3.fr (fun j e => by have := e.1; have := e.2; omega)
      have T2 : TC M2 tx len q' := T1.fr s3.fr (fun e => by have := e.2; omega) (fun e => by have := e.2; omega) (fun j e => by have := e.2; omega)
      obtain ⟨M3, e4, f4, q4, ok4⟩ := j_examine (N := N) hN j82 p15 y77 o89 (by omega) (by omega) (by omega) (by omega) (by omega) R2 Y3 w (by omega) J2 hok.1 hp hcl
      have hlx : (nI cm.2.2.1).toNatClampNeg = cm.2.2.1 := i_cl (by have := hok.2.2.1; omega)
      rw [hlx] at q4 ok4
      have q4' : Res M3 82 (cmJ B cm) := q4
      have I3 := I2.sc f4 (fun a j e => onE_sc e)
      have R3 : RelP M3 15 B := R2.fr f4 (fun a j b1 b2 e => by
        rcases e with e | e | e
        · omega
        · have := e.1; omega
        · omega)
      have T3 : TC M3 tx len q' := T2.fr f4 (fun e => by have := onE_sc e; unfold onSc at this; omega) (fun e => by have := onE_sc e; unfold onSc at this; omega) (fun j e => by have := onE_sc e; unfold onSc at this; omega)
      have cl3 : Cl M1 M3 := (s3.cl (fun a e => onSc_cl (f3 a e))).trans (f4.cl (fun a j e => onSc_cl (onE_sc e)))
      rw [e3, bnd2_some, e4, bnd2_some]
      refine RunC.pre ?_ cl3
      cases hj : cmJ B cm with
      | some qq =>
        rw [hj] at q4'
        have hr := jst_rn (show jst B cm.1 cm.2.1 (cmL' B cm) cm.2.2.2.1 cm.2.2.2.2 = some qq from hj)
        have q0 : M3.1 82 0 = nI qq.1 := q4'.1
        have q1 : M3.1 82 1 = nI qq.2 := q4'.2
        have j0 : M3.1 89 0 = nI cm.1 := by rw [f4.1 89 0 (fun q => by rcases q with q | q | q; omega; have := q.1; have := q.2; omega; omega)]; exact J2.1
        have j1 : M3.1 89 1 = nI cm.2.1 := by rw [f4.1 89 1 (fun q => by rcases q with q | q | q; omega; have := q.1; have := q.2; omega; omega)]; exact J2.2.1
        rw [runN_no hb hj, if_neg (by rw [q0, i_0, i_eq (by omega) (by omega)]; omega)]
        have cl : fX5_clear N Z 90 M3 = some ((), sI M3 90 0 (nI 0)) := by unfold fX5_clear; rw [ck_t hRp.1]; rfl
        have RP : RepAt Z := hRp
        have ea : fX5_add N Z 90 (9 : Int32) (nI k) (sI M3 90 0 (nI 0)) = some ((), sI (sI (sI (sI M3 90 0 (nI 0)) 91 0 (nI 9)) 92 0 (nI k)) 90 0 (nI (0 + 1))) := k_add (i := 0) RP (sI_same _ _ _ _) (by omega) (nI 9) (nI k)
        obtain ⟨M4, hM4⟩ : ∃ M4, M4 = sI (sI (sI (sI M3 90 0 (nI 0)) 91 0 (nI 9)) 92 0 (nI k)) 90 0 (nI (0 + 1)) := ⟨_, rfl⟩
        have s4 : Same inRp M3 M4 := by rw [hM4]; exact (((Same.put (S := inRp) ⟨by omega, by omega⟩).trans (Same.put ⟨by omega, by omega⟩)).trans (Same.put ⟨by omega, by omega⟩)).trans (Same.put ⟨by omega, by omega⟩)
        have ir : ∀ a, inRp a → 90 ≤ a ∧ a ≤ 92 := fun a q => q
        have n4 : ∀ a j, a ≤ 89 → M4.1 a j = M3.1 a j := fun a j ha => s4.1 a (fun e => by have := ir a e; omega) j
        obtain ⟨M5, e5, a0, a1, a2, a3, a4, a5, s5⟩ := k_addRefusal (N := N) (M := M4) (i := 1) (what := cm.1) (p := cm.2.1) (a := qq.1) (b := qq.2) C (by rw [hM4, sI_same]) (by omega) (by rw [n4 _ _ (by omega)]; exact j0) (by rw [n4 _ _ (by omega)]; exact j1) (by rw [n4 _ _ (by omega)]; exact q0) (by rw [n4 _ _ (by omega)]; exact q1)
        have s45 := s4.trans s5
        have b1 : M4.1 91 0 = nI 9 := by rw [hM4, sI_ne _ _ (by omega), sI_ne _ _ (by omega), sI_same]
        have b2 : M4.1 92 0 = nI k := by rw [hM4, sI_ne _ _ (by omega), sI_same]
        refine ⟨M5, ?_, s45.cl (fun a e => by have := ir a e; omega), I3.1.same s45 (fun a b1 b2 b3 => by have := ir a b3; omega), I3.2.1.same s45 (fun q => by have := ir _ q; omega) (fun q => by have := ir _ q; omega), ?_⟩
        · rw [cl, bnd2_some, ea, ← hM4, bnd2_some, e5, bnd2_some]
        · obtain ⟨g1, g2, g3, t, g4⟩ := I3.2.2
          refine ⟨g1.fr s45.fr (fun q => by have := ir _ q; omega) (fun a j b1 b2 q => by have := ir _ q; omega), g2.fr s45.fr (fun q => by have := ir _ q; omega) (fun q => by have := ir _ q; omega) (fun a j b1 b2 q => by have := ir _ q; omega), ⟨by omega, a0, fun i hi => ?_⟩, t, g4.fr s45.fr (fun q => by have := ir _ q; omega) (fun q => by have := ir _ q; omega) (fun j q => by have := ir _ q; omega)⟩
          rcases (show i = 0 ∨ i = 1 ∨ i = 2 by omega) with rfl | rfl | rfl
          · exact ⟨(a5 0 (by omega)).1.trans b1, (a5 0 (by omega)).2.trans b2⟩
          · exact ⟨a1, a2⟩
          · exact ⟨a3, a4⟩
      | none =>
        rw [hj] at q4'
        obtain ⟨J3, ok3⟩ := ok4 hj
        have ok3 : OkA B cm.1 cm.2.1 (cmL' B cm) cm.2.2.2.1 cm.2.2.2.2 := ok3
        obtain ⟨M4, e5, R4, s5⟩ := k_carryOut (N := N) p15 o89 (by omega) R3 w J3 ok3
        have R4 : RelP M4 15 (cmDo B cm) := R4
        have w4 : WF (cmDo B cm) (c + 1) := doA_wf w (by omega) ok3
        have i15 : ∀ a, inP 15 a → onSc a := fun a e => by have := e.1; have := e.2; unfold onSc; omega
        have I4 := I3.sc s5.fr (fun a j e => i15 a e)
        have T4 : TC M4 tx len q' := T3.fr s5.fr (fun e => by have := e.2; omega) (fun e => by have := e.2; omega) (fun j e => by have := e.2; omega)
        have e59 : fX0_isPassed N Z 114 (59 : Int32) M4 = some (if isC tx len q' 59 then 1 else 0, if isC tx len q' 59 then sI M4 114 1 (nI (q' + 1)) else M4) := x_passed (ch := 59) T' T4 (by omega) (by omega)
        rw [runN_go hb hj, if_pos (show M3.1 82 0 = 0 from q4'.1), e5, bnd2_some, e59, bnd2_some]
        refine RunC.pre ?_ (s5.cl (fun a e => onSc_cl (i15 a e)))
        rcases hh with ⟨hq', rfl⟩ | ⟨hq', h59, ht'⟩
        · have n59 : ¬ isC tx len q' 59 = true := fun e => by have := (of_decide_eq_true e).1; omega
          rw [if_neg n59, if_neg n59, if_pos rfl]
          obtain ⟨M5, e6, H5, d5, f6⟩ := k_keepChange (N := N) hN C I4.1 I4.2.2.2.1
          have k9 : ∀ a j, 9 ≤ a → a ≤ 26 → ¬ onK a j := fun a j b1 b2 q => by unfold onK at q; omega
          have R5 : RelP M5 15 (cmDo B cm) := R4.fr f6 (fun a j b1 b2 => k9 a j (by omega) (by omega))
          have s6 : Same (inP 9) M5 (cpM M5 9 15) := cpM_same
          have i9 : ∀ a, inP 9 a → 9 ≤ a ∧ a ≤ 14 := fun a q => ⟨q.1, q.2⟩
          refine ⟨cpM M5 9 15, ?_, (f6.cl (fun a j q => by unfold onK at q; omega)).trans (s6.cl (fun a q => by have := i9 a q; omega)), cpM_rel R5, Or.inl ?_, ?_⟩
          · rw [e6, bnd2_some, k_copy hN p9 p15 (by omega), bnd2_some, nI_1]; rfl
          · rw [s6.1 93 (fun q => by have := q.2; omega)]; exact d5
          · obtain ⟨g1, g2, g3, t, g4⟩ := I4.2.2
            have A5 := g1.fr f6 (fun q => by unfold onK at q; omega) (fun a j b1 b2 => k9 a j (by omega) (by omega))
            have B5 := g3.fr f6 (fun a j b1 b2 q => by unfold onK at q; omega)
            have D5 := g4.fr f6 (fun q => by unfold onK at q; omega) (fun q => by unfold onK at q; omega) (fun j q => by unfold onK at q; omega)
            exact CR.fr (P := fun a _ => inP 9 a) ⟨A5, H5, B5, t, D5⟩ s6.fr (fun a j q => by have := i9 a q; unfold onCr; omega)
        · have hne : 1 ≤ L.length := (txt_len _ _ _ ht').2.1
          have hlt := (of_decide_eq_true h59).1
          rw [if_pos h59, if_pos h59, if_neg (by decide), nI_1, if_pos (by rw [i_80, i_lt (by omega) (by omega)]; omega)]
          have T5 := T4.go (q' + 1)
          have I5 := I4.txt (go_fr1 (v := nI (q' + 1))) (fun a j e => Or.inl e.1) ⟨q' + 1, T5⟩
          have R5 : RelP (sI M4 114 1 (nI (q' + 1))) 15 (cmDo B cm) := R4.fr (go_fr1 (v := nI (q' + 1))) (fun a j b1 b2 e => by omega)
          have := ih j' (k + 1) (q' + 1) fu (cmDo B cm) (c + 1) (sI M4 114 1 (nI (q' + 1))) ht' (by omega) (by omega) (by omega) R5 w4 (by omega) (by rw [← h0]; exact doA_0 hok.1) T5 I5
          rw [List.length_cons, show k + (L.length + 1) = k + 1 + L.length by omega]
          exact this.pre ((go_fr1 (v := nI (q' + 1))).cl (fun a j e => by omega))
end RU
