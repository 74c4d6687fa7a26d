/-! ===== LAYER 3: calls: feed, perform ===== -/
theorem txt_err {tx : Nat → Nat} {len : Nat} : ∀ (j q e : Nat), txtN tx len j q = .inl e → e ≤ q + 8 * j := by
  intro j
  induction j with
  | zero => intro q e h; cases h; omega
  | succ j ih =>
    intro q e h
    have hp := (cmdN_pos (tx := tx) (len := len) (q := q)).1
    unfold txtN at h
    obtain ⟨rr, hr⟩ : ∃ rr, rr = cmdN tx len q := ⟨_, rfl⟩
    rw [← hr] at h hp
    obtain ⟨q', o⟩ := rr
    have hp' : q' ≤ q + 7 := hp
    cases o with
    | none => cases h; omega
    | some cm =>
      have h' : (if q' = len then (.inr [cm] : Nat ⊕ List Cmd) else if isC tx len q' 59 = true then (match txtN tx len j (q' + 1) with
        | .inl e => .inl e
        | .inr L => .inr (cm :: L)) else .inl q') = .inl e := h
      by_cases c : q' = len
      · rw [if_pos c] at h'; cases h'
      · rw [if_neg c] at h'
        by_cases c2 : isC tx len q' 59 = true
        · rw [if_pos c2] at h'
          cases ht : txtN tx len j (q' + 1) with
          | inl e2 => rw [ht] at h'; cases h'; have := ih _ _ ht; omega
          | inr L2 => rw [ht] at h'; cases h'
        · rw [if_neg c2] at h'; cases h'; omega
theorem runN_wf : ∀ (L : List Cmd) (k : Nat) (B : Row) (c : Nat), WF B c → c + L.length ≤ 1000000 → (∀ cm ∈ L, CmOk cm) → ∀ B', runN k B L = .inr B' → WF B' (c + L.length) := by
  intro L
  induction L with
  | nil => intro k B c w hc hok B' h; cases h; exact w
  | cons cm L ih =>
    intro k B c w hc hok B' h
    rw [List.length_cons] at hc
    by_cases h1 : cmOkB B cm = true
    · cases h2 : cmJ B cm with
      | some q => rw [runN_no h1 h2] at h; cases h
      | none =>
        rw [runN_go h1 h2] at h
        have hp := cmOk_p h1
        have hk := (hok cm List.mem_cons_self).1
        have ok := jst_none_ok (l := cmL' B cm) (told := cm.2.2.1) w hp.1 hk rfl hp.2 h2
        have := ih (k + 1) (cmDo B cm) (c + 1) (doA_wf w (by omega) ok) (by omega) (fun c2 hc2 => hok c2 (List.mem_cons_of_mem _ hc2)) B' h
        rw [List.length_cons, show c + (L.length + 1) = c + 1 + L.length by omega]
        exact this
    · rw [runN_bad (by simpa using h1)] at h; cases h
section OX
variable {N : Nat} {Z : mZ} {M : mM} {A : Row} {c : Nat} {sv : Option Row} {H : Nat → Row} {n : Nat} {rp : Nat → Nat × Nat} {r : Nat} {tx : Nat → Nat} {len : Nat}
def onMt (a j : Nat) : Prop := onMr a j ∨ a = 126 ∨ (a = 116 ∧ (j = 18 ∨ j = 19))
theorem MI.txt {P : Nat → Nat → Prop} {M M' : mM} {len' : Nat} {tx' : Nat → Nat} (h : MI M A sv H n rp r tx len) (s : Fr P M M') (hd : ∀ a j, P a j → onMt a j) (hA : RowAt M' 117 A) (ht : ∃ q, TM M' tx' len' q) : MI M' A sv H n rp r tx' len' := by
  obtain ⟨-, g1, g2, g3, -⟩ := h
  have nd : ∀ a j, ¬ onMt a j → ¬ P a j := fun a j hn hp => hn (hd a j hp)
  exact ⟨hA, g1.fr s (nd _ _ (by unfold onMt onMr; omega)) (fun j => nd _ _ (by unfold onMt onMr; omega)), g2.fr s (nd _ _ (by unfold onMt onMr; omega)) (fun j => nd _ _ (by unfold onMt onMr; omega)), g3.fr s (nd _ _ (by unfold onMt onMr; omega)) (fun j => nd _ _ (by unfold onMt onMr; omega)), ht⟩
theorem onMt_in {a j : Nat} (h : onMt a j) : 116 ≤ a ∧ a ≤ 128 := by unfold onMt onMr at h; omega
theorem op_feed (hC : ClsAt Z) (hM : ModAt Z) (w : WFs c A sv H n) (h : CI M A sv H n rp r tx len) {ch : Nat} (hch : ch < 65536) : OpOK M (A, sv, H, n, rp, r, tx, len) c (fX8_feed N Z 8 (nI ch) M) (fX9_feed N Z 116 (nI ch)) (fun _ => ISE) := by
  have hS : CS M (A, sv, H, n, rp, r, tx, len) := h
  have wS : WS c (A, sv, H, n, rp, r, tx, len) := w
  obtain ⟨q0, t1, t2, t3, t4, t5⟩ := h.2.2.2.2.2
  obtain ⟨o8, ⟨r0, r1, r2, r4, r5, r6, r7, r8, r9, r10⟩, -, -, -, -, -, -, -, ⟨x1, x2, x3, x4⟩⟩ := hC
  have hM' := hM
  obtain ⟨o1, ⟨-, -, -, -, -, -, -, -, -, m17, -⟩, -, -, -, -, -, -, -, -, -, ⟨a4, a5, a6⟩, -⟩ := hM'
  by_cases hl : len < 80
  · obtain ⟨tx', htx⟩ : ∃ t : Nat → Nat, t = fun i => if i = len then ch else tx i := ⟨_, rfl⟩
    have txn : tx' len = ch := by rw [htx]; exact if_pos rfl
    have txo : ∀ i, i ≠ len → tx' i = tx i := fun i hi => by rw [htx]; exact if_neg hi
    have T1 : TC (sI (sI M 115 len (nI ch)) 114 0 (nI (len + 1))) tx' (len + 1) q0 := by
      refine ⟨sI_same _ _ _ _, by rw [sI_ne _ _ (by omega), sI_ne _ _ (by omega)]; exact t2, fun i hi => ?_, by omega, fun i hi => ?_⟩
      · rw [sI_ne _ _ (by omega)]
        by_cases e : i = len
        · rw [e, sI_same, txn]
        · rw [sI_ne _ _ (by omega), txo i e]; exact t3 i (by omega)
      · by_cases e : i = len
        · rw [e, txn]; exact hch
        · rw [txo i e]; exact t5 i (by omega)
    have f1 : Fr (fun a j => a = 114 ∨ a = 115) M (sI (sI M 115 len (nI ch)) 114 0 (nI (len + 1))) := (Fr.put (P := fun a j => a = 114 ∨ a = 115) (Or.inr rfl)).trans (Fr.put (Or.inl rfl))
    refine OpOK.of_yes (σ' := (A, sv, H, n, rp, r, tx', len + 1)) (nI (len + 1)) wS ⟨_, ?_, f1.cl (fun a j e => by omega), h.txt f1 (fun a j e => by omega) ⟨q0, T1⟩⟩ (fun M1 hM1 => ?_)
    · unfold fX8_feed
      rw [ck_t o8, r10, bnd1_some, ck_t x1, t1, if_pos (by rw [i_80, i_lt (by omega) (by omega)]; exact hl)]
      unfold fX0_append
      rw [ck_t x1, t1, if_neg (nI_pos (by omega)), x2, bnd1_some, ck_t x3, x4, if_pos (by rw [i_ofNat, i_lt (by omega) (by omega)]; exact hl), ck_t (by rw [i_inB (by omega)]; exact decide_eq_true hl), i_cl (by omega), chN_id hch, sI_ne _ _ (show ¬ ((114 : Nat) = 115 ∧ (0 : Nat) = len) by omega), t1, nI_1, bnd2_some, sI_same]
      rfl
    · obtain ⟨p0, s1, s2, s3, s4, s5⟩ := hM1.2.2.2.2
      have s1' : M1.1 116 18 = nI len := s1
      have s3' : ∀ i, i < len → M1.1 126 i = nI (tx i) := s3
      have T2 : TM (sI (sI (sI M1 116 9 (0 : Int32)) 126 len (nI ch)) 116 18 (nI (len + 1))) tx' (len + 1) p0 := by
        refine ⟨sI_same _ _ _ _, by rw [sI_ne _ _ (by omega), sI_ne _ _ (by omega), sI_ne _ _ (by omega)]; exact s2, fun i hi => ?_, by omega, fun i hi => ?_⟩
        · rw [sI_ne _ _ (by omega)]
          by_cases e : i = len
          · rw [e, sI_same, txn]
          · rw [sI_ne _ _ (by omega), sI_ne _ _ (by omega), txo i e]; exact s3' i (by omega)
        · by_cases e : i = len
          · rw [e, txn]; exact hch
          · rw [txo i e]; exact t5 i (by omega)
      have f2 : Fr onMt M1 (sI (sI (sI M1 116 9 (0 : Int32)) 126 len (nI ch)) 116 18 (nI (len + 1))) := ((Fr.put (P := onMt) (by unfold onMt onMr; omega)).trans (Fr.put (Or.inr (Or.inl rfl)))).trans (Fr.put (Or.inr (Or.inr ⟨rfl, Or.inl rfl⟩)))
      refine ⟨nI (len + 1), _, ?_, f2.mo (fun a j e => onMt_in e), ?_, fun v' e => (by cases e; rfl), MI.txt hM1 f2 (fun a j e => e) (RowAt.fr hM1.1 ((Fr.put (P := fun a j => a = 116 ∨ a = 126) (Or.inl rfl)).trans ((Fr.put (Or.inr rfl)).trans (Fr.put (Or.inl rfl)))) (fun j => by omega)) ⟨p0, T2⟩⟩
      · unfold fX9_feed
        rw [ck_t o1, s1', if_neg (by rw [i_80, i_eq (by omega) (by omega)]; omega)]
        unfold fX9_feed_15
        rw [ck_t o1, ck_t o1, sI_same, if_pos (by decide), m17, bnd1_some, ck_t a4, sI_ne _ _ (show ¬ ((116 : Nat) = 116 ∧ (18 : Nat) = 9) by omega), s1', a6, ck_t (by rw [i_inB (by omega)]; exact decide_eq_true hl), i_cl (by omega), sI_ne _ _ (show ¬ ((116 : Nat) = 126 ∧ (18 : Nat) = len) by omega), sI_ne _ _ (show ¬ ((116 : Nat) = 116 ∧ (18 : Nat) = 9) by omega), s1', nI_1, sI_same]
      · rw [sI_ne _ _ (by omega), sI_ne _ _ (by omega), sI_same]; rfl
  · have e80 : len = 80 := by omega
    refine OpOK.of_no (k := 1) ⟨by omega, by omega, by decide +kernel⟩ wS (CK.bad hS ?_) (MK.bad (fun M1 hM1 => ?_))
    · unfold fX8_feed
      rw [ck_t o8, r10, bnd1_some, ck_t x1, t1, if_neg (by rw [i_80, i_lt (by omega) (by omega)]; exact hl)]; try rfl
    · obtain ⟨p0, s1, -⟩ := hM1.2.2.2.2
      have s1' : M1.1 116 18 = nI len := s1
      unfold fX9_feed
      rw [ck_t o1, s1', if_pos (by rw [e80]; rfl)]
      unfold fX9_feed_15
      rw [ck_t o1, ck_t o1, sI_same, if_neg (by decide)]; try rfl
/-! perform -/
def clM (M : mM) : mM := sI (sI M 114 0 (0 : Int32)) 114 1 (0 : Int32)
theorem clM_fr {M : mM} : Fr (fun a j => a = 114) M (clM M) := (Fr.put (P := fun a j => a = 114) rfl).trans (Fr.put rfl)
theorem x_clear (hC : ClsAt Z) {M : mM} : fX0_clear N Z 114 M = some ((), clM M) := by
  obtain ⟨-, -, -, -, -, -, -, -, -, ⟨x1, -⟩⟩ := hC
  unfold fX0_clear; rw [ck_t x1]; rfl
theorem CI.clr {M : mM} (h : CI M A sv H n rp r tx len) : CI (clM M) A sv H n rp r tx 0 := by
  obtain ⟨q0, t1, t2, t3, t4, t5⟩ := h.2.2.2.2.2
  exact h.txt clM_fr (fun a j e => Or.inl e) ⟨0, by unfold clM; rw [sI_ne _ _ (by omega), sI_same]; rfl, by unfold clM; rw [sI_same]; rfl, fun i hi => absurd hi (by omega), by omega, fun i hi => absurd hi (by omega)⟩
theorem cl_clr {M : mM} : Cl M (clM M) := clM_fr.cl (fun a j e => by omega)
theorem op_perform (hN : 5000 ≤ N) (hC : ClsAt Z) (hM : ModAt Z) (w : WFs c A sv H n) (hc : c + 27 ≤ 1000000) (h : CI M A sv H n rp r tx len) : OpOK M (A, sv, H, n, rp, r, tx, len) (c + 27) (fX8_perform N Z 8 M) (fX9_perform N Z 116) (fun _ => UOE) := by
  have wS : WS (c + 27) (A, sv, H, n, rp, r, tx, 0) := WS.mono (σ := (A, sv, H, n, rp, r, tx, 0)) w (by omega) hc
  obtain ⟨q0, hq0⟩ := h.2.2.2.2.2
  have C := hC
  obtain ⟨o8, ⟨r0, r1, r2, r4, r5, r6, r7, r8, r9, r10⟩, ⟨p9, p15, p21⟩, -, -, -, o89, -, -, hT⟩ := hC
  obtain ⟨M1, x1, ⟨q1, T1⟩, f1⟩ := x_error (N := N) hT o89 hN hq0
  have I1 : CI M1 A sv H n rp r tx len := h.txt f1 (fun a j e => onX_tx e) ⟨q1, T1⟩
  have cl1 : Cl M M1 := f1.cl (fun a j e => tx_cl (onX_tx e))
  have gm := hM
  obtain ⟨o1, ⟨m0, -, -, -, -, -, -, -, -, -, -, m22⟩, ⟨g4, g5, g6⟩, -, -, -, -, -, -, -, -, -, -, ⟨b4, b5, b6⟩⟩ := hM
  have ref : ∀ M3, MS M3 (A, sv, H, n, rp, r, tx, len) → ∃ M4, fX9_isText N Z 116 (sI M3 116 9 (0 : Int32)) = some ((match txtN tx len 27 0 with
      | .inl _ => (0 : Int32)
      | .inr _ => (1 : Int32)), M4) ∧ Mo M3 M4 ∧ M4.1 116 9 = nI 0 ∧ MS (sI M4 116 18 (0 : Int32)) (A, sv, H, n, rp, r, tx, 0) ∧ (∀ e, txtN tx len 27 0 = .inl e → M4.1 116 19 = nI e) ∧ (∀ L, txtN tx len 27 0 = .inr L → M4.1 116 21 = nI L.length ∧ ToldL M4 0 L ∧ ∀ cm ∈ L, CmOk cm) := fun M3 hM3 => by
    have t := hM3.thr (0 : Int32)
    obtain ⟨p0, hp0⟩ := t.2.2.2.2
    obtain ⟨M4, y1, y2, y3, y4⟩ := y_text (N := N) gm hN hp0
    have R4 : RowAt M4 117 A := RowAt.fr t.1 y2 (fun j e => by unfold onY at e; omega)
    have f4 : Fr onMt (sI M3 116 9 (0 : Int32)) M4 := y2.mono (fun a j e => by unfold onY at e; unfold onMt onMr; omega)
    have f5 : Fr onMt (sI M3 116 9 (0 : Int32)) (sI M4 116 18 (0 : Int32)) := f4.trans (Fr.put (Or.inr (Or.inr ⟨rfl, Or.inl rfl⟩)))
    refine ⟨M4, y1, mo_thr.trans (f4.mo (fun a j e => onMt_in e)), ?_, ?_, fun e he => (y3 e he).2.1, fun L he => ⟨(y4 L he).2.1, (y4 L he).2.2.1, (y4 L he).2.2.2⟩⟩
    · rw [y2.1 116 9 (fun e => by unfold onY at e; omega), sI_same]; rfl
    · have pq : ∃ p1, M4.1 116 19 = nI p1 := by
        cases ht : txtN tx len 27 0 with
        | inl e => exact ⟨_, (y3 e ht).2.1⟩
        | inr L => obtain ⟨⟨q', hq'⟩, -⟩ := y4 L ht; exact ⟨_, hq'.2.1⟩
      obtain ⟨p1, hp1⟩ := pq
      refine MI.txt t f5 (fun a j e => e) (R4.fr (Fr.put (P := fun a j => a = 116) rfl) (fun j => by omega)) ⟨p1, by rw [sI_same]; rfl, by rw [sI_ne _ _ (by omega)]; exact hp1, fun i hi => absurd hi (Nat.not_lt_zero i), Nat.zero_le _, fun i hi => absurd hi (Nat.not_lt_zero i)⟩
  cases ht : txtN tx len 27 0 with
  | inl e =>
    rw [ht] at x1
    have x1' : fX0_errorPosition N Z 114 89 M = some (nI e, M1) := x1
    have he := txt_err _ _ _ ht
    refine OpOK.of_yes (σ' := (A, sv, H, n, rp, r, tx, 0)) ((-100 : Int32) - nI e) wS ⟨clM M1, ?_, cl1.trans cl_clr, I1.clr⟩ (fun M3 hM3 => ?_)
    · unfold fX8_perform
      rw [ck_t o8, r10, bnd1_some, r7, bnd1_some, ck_t hT.1, x1', bnd2_some, if_neg (fun z => nI_pos (n := e) (by omega) (by rw [z]; decide)), x_clear C, bnd2_some]
      rfl
    · obtain ⟨M4, y1, y2, y3, y4, y5, -⟩ := ref M3 hM3
      rw [ht] at y1
      have y1' : fX9_isText N Z 116 (sI M3 116 9 (0 : Int32)) = some ((0 : Int32), M4) := y1
      refine ⟨(-100 : Int32) - nI e, sI M4 116 18 (0 : Int32), ?_, y2.trans ((Fr.put (P := fun a j => a = 116) rfl).mo (fun a j e => by omega)), by rw [sI_ne _ _ (by omega)]; exact y3, fun v' e => Sum.inl.inj e, y4⟩
      unfold fX9_perform
      rw [ck_t o1, y1', bnd2_some, if_pos rfl, sI_ne _ _ (show ¬ ((116 : Nat) = 116 ∧ (19 : Nat) = 18) by omega), y5 e ht]
  | inr L =>
    rw [ht] at x1
    have x1' : fX0_errorPosition N Z 114 89 M = some ((-1 : Int32), M1) := x1
    obtain ⟨l27, l1, lok⟩ := txt_len _ _ _ ht
    obtain ⟨M2, hM2⟩ : ∃ M2, M2 = sI (cpM M1 15 9) 114 1 (0 : Int32) := ⟨_, rfl⟩
    have f2 : Fr (fun a j => inP 15 a ∨ (a = 114 ∧ j = 1)) M1 M2 := by
      rw [hM2]
      exact (cpM_same.fr.mono (fun a j e => Or.inl e)).trans (Fr.put (Or.inr ⟨rfl, rfl⟩))
    have T2 : TC M2 tx len 0 := by
      rw [hM2]
      exact (T1.fr (cpM_same (b := 15) (b' := 9)).fr (fun e => by have := e.2; omega) (fun e => by have := e.2; omega) (fun j e => by have := e.2; omega)).go 0
    have R2 : RelP M2 15 A := by
      rw [hM2]
      exact (cpM_rel I1.1).fr (Fr.put (P := fun a j => a = 114) rfl) (fun a j b1 b2 => by omega)
    have I2 : CI M2 A sv H n rp r tx len := I1.txt f2 (fun a j e => by
      rcases e with e | e
      · have := e.1; have := e.2; unfold onSc; omega
      · omega) ⟨0, T2⟩
    have cl2 : Cl M M2 := cl1.trans (f2.cl (fun a j e => by
      rcases e with e | e
      · have := e.1; have := e.2; omega
      · omega))
    have hrun := x_run (N := N) hN C w.1 L 27 0 0 N A c M2 ht (by omega) (by omega) (by omega) R2 w.1 (by omega) rfl T2 I2
    have eC : fX8_carryOutCommands N Z 8 M1 = fX8_carryOutCommands_21 N Z N 8 (nI 0) M2 := by
      unfold fX8_carryOutCommands
      rw [ck_t o8, r1, bnd1_some, r0, bnd1_some, ck_t p15.1, k_copy hN p15 p9 (by omega), bnd2_some, r10, bnd1_some, ck_t hT.1, hM2]; try rfl
    have head : ∀ res, bnd2 (fX8_carryOutCommands_21 N Z N 8 (nI 0) M2) (fun r7 M7 => bnd2 (fX0_clear N Z 114 M7) (fun _ M8 => if r7 = (-1 : Int32) then some (.inr "java/lang/UnsupportedOperationException", sT M8) else some (.inl r7, M8))) = some res → fX8_perform N Z 8 M = some res := fun res hh => by
      unfold fX8_perform
      rw [ck_t o8, r10, bnd1_some, r7, bnd1_some, ck_t hT.1, x1', bnd2_some, if_pos rfl, eC]
      exact hh
    have hm : ∀ M3, MS M3 (A, sv, H, n, rp, r, tx, len) → ∃ M6, fX9_perform N Z 116 M3 = fX9_perform_40 N Z N 116 (nI 0) M6 ∧ Mo M3 M6 ∧ RunM M6 A sv H n rp r tx 0 (0 + L.length) (runN 0 A L) (fX9_perform_40 N Z N 116 (nI 0) M6) := fun M3 hM3 => by
      obtain ⟨M4, y1, y2, y3, y4, -, y6⟩ := ref M3 hM3
      rw [ht] at y1
      have y1' : fX9_isText N Z 116 (sI M3 116 9 (0 : Int32)) = some ((1 : Int32), M4) := y1
      obtain ⟨z1, z2, z3⟩ := y6 L ht
      obtain ⟨M5, hM5⟩ : ∃ M5, M5 = sI M4 116 18 (0 : Int32) := ⟨_, rfl⟩
      rw [← hM5] at y4
      have f5 : Fr (fun a j => a = 116 ∧ j = 18) M4 M5 := by rw [hM5]; exact Fr.put (P := fun a j => a = 116 ∧ j = 18) ⟨rfl, rfl⟩
      obtain ⟨M6, hM6⟩ : ∃ M6, M6 = fillA M5 128 (M5.1 117) 121 := ⟨_, rfl⟩
      have f6 : Fr (fun a j => a = 128) M5 M6 := by rw [hM6]; exact (Same.fill (S := fun a => a = 128) rfl).fr
      have e6 : fX9_perform N Z 116 M3 = fX9_perform_40 N Z N 116 (nI 0) M6 := by
        unfold fX9_perform
        rw [ck_t o1, y1', bnd2_some, if_neg (by decide), m0, bnd1_some, m22, bnd1_some, ← hM5, m_copies hN g5 g6 b4 b6 (by omega), bnd2_some, hM6]; try rfl
      refine ⟨M6, e6, (y2.trans (f5.mo (fun a j e => by omega))).trans (f6.mo (fun a j e => by omega)), ?_⟩
      have A128 : RowAt M6 128 A := by rw [hM6]; exact RowAt.fill y4.1
      have A117 : RowAt M6 117 A := RowAt.fr y4.1 f6 (fun j => by omega)
      have R6 : MR M6 sv H n rp r tx 0 := MR.fr (P := fun a j => a = 128) y4.2 f6 (fun a j e => by unfold onMr; omega)
      refine p_run hN gm w.1 L 0 N A c M6 z3 (by omega) (by omega) A117 w.1 (by omega) A128 ((z2.fr f5 (fun j => by omega)).fr f6 (fun j => by omega)) ?_ ?_ R6
      · rw [f6.1 _ _ (by omega), f5.1 _ _ (by omega), z1, Nat.zero_add]
      · rw [f6.1 _ _ (by omega), f5.1 _ _ (by omega)]; exact y3
    have nm1 : 1 ≤ 1 ∧ 1 ≤ 3 ∧ fstN (fun _ => UOE) 1 := ⟨by omega, by omega, by decide +kernel⟩
    cases hr : runN 0 A L with
    | inr B' =>
      have wB := runN_wf L 0 A c w.1 (by omega) lok B' hr
      rw [hr] at hrun
      obtain ⟨M7, u1, u2, u3⟩ := (show ∃ M', fX8_carryOutCommands_21 N Z N 8 (nI 0) M2 = some (nI (0 + L.length), M') ∧ Cl M2 M' ∧ CI M' B' sv (kpH H n A) (kpN n) rp r tx len from hrun)
      have wK : WS (c + 27) (B', sv, kpH H n A, kpN n, rp, r, tx, 0) := WFs.keep (c := c + 26) (r := r) (rp := rp) (tx := tx) (len := 0) (WS.mono (σ := (A, sv, H, n, rp, r, tx, 0)) w (by omega) (by omega)) (by omega) (wB.mono (by omega) (by omega))
      refine OpOK.of_yes (σ' := (B', sv, kpH H n A, kpN n, rp, r, tx, 0)) (nI (0 + L.length)) wK ⟨clM M7, head _ ?_, (cl2.trans u2).trans cl_clr, u3.clr⟩ (fun M3 hM3 => ?_)
      · rw [u1, bnd2_some, x_clear C, bnd2_some, if_neg (fun z => nI_pos (n := 0 + L.length) (by omega) (by rw [z]; decide))]
        rfl
      · obtain ⟨M6, v1, v2, v3⟩ := hm M3 hM3
        rw [hr] at v3
        obtain ⟨M8, s1, s2, s3, s4⟩ := (show ∃ M', fX9_perform_40 N Z N 116 (nI 0) M6 = some (nI (0 + L.length), M') ∧ Mo M6 M' ∧ M'.1 116 9 = nI 0 ∧ MI M' B' sv (kpH H n A) (kpN n) rp r tx 0 from v3)
        exact ⟨nI (0 + L.length), M8, v1.trans s1, v2.trans s2, s3, fun v' e => (by cases e; rfl), s4⟩
    | inl o =>
      cases o with
      | none =>
        rw [hr] at hrun
        obtain ⟨M7, u1, u2, u3⟩ := (show ∃ M', fX8_carryOutCommands_21 N Z N 8 (nI 0) M2 = some (-1, M') ∧ Cl M2 M' ∧ CI M' A sv H n rp r tx len from hrun)
        refine ⟨.inr 1, (A, sv, H, n, rp, r, tx, 0), ⟨sT (clM M7), head _ ?_, (cl2.trans u2).trans cl_clr, u3.clr⟩, fun M3 hM3 => ?_, fun k e => by cases e; exact nm1, wS⟩
        · rw [u1, bnd2_some, x_clear C, bnd2_some, if_pos rfl]; try rfl
        · obtain ⟨M6, v1, v2, v3⟩ := hm M3 hM3
          rw [hr] at v3
          obtain ⟨M8, b, s1, s2, s3, s4⟩ := (show ∃ M' b, fX9_perform_40 N Z N 116 (nI 0) M6 = some (b, M') ∧ Mo M6 M' ∧ M'.1 116 9 = nI 1 ∧ MI M' A sv H n rp r tx 0 from v3)
          exact ⟨b, M8, v1.trans s1, v2.trans s2, s3, fun v' e => (by cases e), s4⟩
      | some x =>
        rw [hr] at hrun
        obtain ⟨M7, u1, u2, u3⟩ := (show ∃ M', fX8_carryOutCommands_21 N Z N 8 (nI 0) M2 = some (-1, M') ∧ Cl M2 M' ∧ CI M' A sv H n (rpR x) 3 tx len from hrun)
        refine ⟨.inr 1, (A, sv, H, n, rpR x, 3, tx, 0), ⟨sT (clM M7), head _ ?_, (cl2.trans u2).trans cl_clr, u3.clr⟩, fun M3 hM3 => ?_, fun k e => by cases e; exact nm1, wS⟩
        · rw [u1, bnd2_some, x_clear C, bnd2_some, if_pos rfl]; try rfl
        · obtain ⟨M6, v1, v2, v3⟩ := hm M3 hM3
          rw [hr] at v3
          obtain ⟨M8, b, s1, s2, s3, s4⟩ := (show ∃ M' b, fX9_perform_40 N Z N 116 (nI 0) M6 = some (b, M') ∧ Mo M6 M' ∧ M'.1 116 9 = nI 1 ∧ MI M' A sv H n (rpR x) 3 tx 0 from v3)
          exact ⟨b, M8, v1.trans s1, v2.trans s2, s3, fun v' e => (by cases e), s4⟩
end OX
