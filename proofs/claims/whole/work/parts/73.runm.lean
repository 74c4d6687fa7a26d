/-! ===== LAYER 3: commands that are carried out, the reference ===== -/
section RM
variable {N : Nat} {Z : mZ} {A : Row} {sv : Option Row} {H : Nat → Row} {n : Nat} {rp : Nat → Nat × Nat} {r : Nat} {tx : Nat → Nat} {len : Nat}
theorem m_isPlace (hM : ModAt Z) {c : Nat} {B : Row} (w : WF B c) {M : mM} (hR : RowAt M 117 B) {p : Nat} (hp : p < 2147483648) : fX9_isPlace N Z 116 (nI p) M = some (if p < B 0 then 1 else 0, M) := by
  have h1 := w.1
  obtain ⟨o1, ⟨o2, -⟩, ⟨g4, g5, g6⟩, -⟩ := hM
  have e : fX9_in N Z (nI p) (0 : Int32) (nI (B 0 - 1)) M = some (if 0 ≤ p ∧ p ≤ B 0 - 1 then 1 else 0, M) := m_in (l := 0) hp (by omega) (by omega)
  unfold fX9_isPlace
  rw [ck_t o1, o2, bnd1_some, ck_t g5, g6, ck_t (by decide), cl_0, hR 0 (by omega), show nI (B 0) - 1 = nI (B 0 - 1) from i_sub (b := 1) (by omega), e, bnd2_some]
  by_cases c : p < B 0
  · rw [if_pos (by omega), if_pos c, ck_t (by decide)]
  · rw [if_neg (by omega), if_neg c, ck_t (by decide)]
theorem m_isPlaceN (hM : ModAt Z) {M : mM} {x : Int32} (h : x < 0) : fX9_isPlace N Z 116 x M = some (0, M) := by
  obtain ⟨o1, ⟨o2, -⟩, ⟨g4, g5, g6⟩, -⟩ := hM
  unfold fX9_isPlace fX9_in
  rw [ck_t o1, o2, bnd1_some, ck_t g5, g6, ck_t (by decide), if_pos h, bnd2_some, ck_t (by decide)]
def RunM (M : mM) (A : Row) (sv : Option Row) (H : Nat → Row) (n : Nat) (rp : Nat → Nat × Nat) (r : Nat) (tx : Nat → Nat) (len T : Nat) (res : Option (Nat × Nat × Nat × Nat × Nat) ⊕ Row) (R : Option (Int32 × mM)) : Prop := match res with
  | .inr B' => ∃ M', R = some (nI T, M') ∧ Mo M M' ∧ M'.1 116 9 = nI 0 ∧ MI M' B' sv (kpH H n A) (kpN n) rp r tx len
  | .inl none => ∃ M' b, R = some (b, M') ∧ Mo M M' ∧ M'.1 116 9 = nI 1 ∧ MI M' A sv H n rp r tx len
  | .inl (some x) => ∃ M' b, R = some (b, M') ∧ Mo M M' ∧ M'.1 116 9 = nI 1 ∧ MI M' A sv H n (rpR x) 3 tx len
theorem RunM.pre {M M1 : mM} {T : Nat} {res : Option (Nat × Nat × Nat × Nat × Nat) ⊕ Row} {R : Option (Int32 × mM)} (h : RunM M1 A sv H n rp r tx len T res R) (f : Mo M M1) : RunM M A sv H n rp r tx len T res R := by
  match res, h with
  | .inr B', h => obtain ⟨M', x1, x2, x3⟩ := h; exact ⟨M', x1, f.trans x2, x3⟩
  | .inl none, h => obtain ⟨M', b, x1, x2, x3⟩ := h; exact ⟨M', b, x1, f.trans x2, x3⟩
  | .inl (some x), h => obtain ⟨M', b, x1, x2, x3⟩ := h; exact ⟨M', b, x1, f.trans x2, x3⟩
theorem m_fails (hM : ModAt Z) {M : mM} (v : Int32) : fX9_fails N Z 116 v M = some (0, sI M 116 9 v) := by unfold fX9_fails; rw [ck_t hM.1]
theorem ToldL.fr {P : Nat → Nat → Prop} {M M' : mM} {k : Nat} {L : List Cmd} (h : ToldL M k L) (s : Fr P M M') (hd : ∀ j, ¬ P 127 j) : ToldL M' k L := fun i cm hi => by
  obtain ⟨a, b, c, d, e⟩ := h i cm hi
  exact ⟨by rw [s.1 _ _ (hd _)]; exact a, by rw [s.1 _ _ (hd _)]; exact b, by rw [s.1 _ _ (hd _)]; exact c, by rw [s.1 _ _ (hd _)]; exact d, by rw [s.1 _ _ (hd _)]; exact e⟩
/-- once refused -/
theorem p_169no (hN : 5000 ≤ N) (hM : ModAt Z) (K : Nat → Int32 → mM → Option (Int32 × mM)) {M : mM} {B : Row} {k : Nat} {cm : Cmd} {tk : Int32} (hA : RowAt M 128 A) (hR : MR M sv H n rp r tx len) (hT : Told M k cm) (hk : k ≤ 30) {q : Nat × Nat} (hq : 1 ≤ q.1 ∧ q.1 ≤ 8) (hd : M.1 116 14 = nI q.2) :
    RunM M A sv H n rp r tx len (k + 1) (.inl (some (k, cm.1, cm.2.1, q.1, q.2))) (fX9_perform_169 N Z K 116 (nI k) (nI (5 * k)) tk (nI q.1) M) := by
  have gm := hM
  obtain ⟨o1, ⟨r0, -, -, -, -, -, -, -, -, -, r20, r22⟩, ⟨g4, g5, g6⟩, -, -, -, -, -, -, -, -, -, ⟨a4, a5, a6⟩, ⟨b4, b5, b6⟩⟩ := hM
  obtain ⟨M1, hM1⟩ : ∃ M1, M1 = fillA M 117 (M.1 128) 121 := ⟨_, rfl⟩
  have f1 : Fr (fun a _ => a = 117) M M1 := by rw [hM1]; exact (Same.fill (S := fun x => x = 117) rfl).fr
  have R1 : RowAt M1 117 A := by rw [hM1]; exact hA.fill
  have T1 : Told M1 k cm := ⟨by rw [f1.1 _ _ (by omega)]; exact hT.1, by rw [f1.1 _ _ (by omega)]; exact hT.2.1, by rw [f1.1 _ _ (by omega)]; exact hT.2.2.1, by rw [f1.1 _ _ (by omega)]; exact hT.2.2.2.1, by rw [f1.1 _ _ (by omega)]; exact hT.2.2.2.2⟩
  have e1 : fX9_reports N Z 116 (0 : Int32) (9 : Int32) (nI k) M1 = _ := m_reports (i := 0) gm (by omega) (nI 9) (nI k)
  obtain ⟨M2, hM2⟩ : ∃ M2, M2 = sI (sI (sI M1 122 (2 * 0) (nI 9)) 122 (2 * 0 + 1) (nI k)) 116 8 (nI (0 + 1)) := ⟨_, rfl⟩
  rw [← hM2] at e1
  have f2 : Fr (fun a j => a = 122 ∨ (a = 116 ∧ j = 8)) M1 M2 := by rw [hM2]; exact ((Fr.put (P := fun a j => a = 122 ∨ (a = 116 ∧ j = 8)) (Or.inl rfl)).trans (Fr.put (Or.inl rfl))).trans (Fr.put (Or.inr ⟨rfl, rfl⟩))
  have t0 : M2.1 127 (5 * k) = nI cm.1 := by rw [f2.1 _ _ (by omega)]; exact T1.1
  have t1 : M2.1 127 (5 * k + 1) = nI cm.2.1 := by rw [f2.1 _ _ (by omega)]; exact T1.2.1
  have e2 : fX9_reports N Z 116 (1 : Int32) (nI cm.1) (nI cm.2.1) M2 = _ := m_reports (i := 1) gm (by omega) (nI cm.1) (nI cm.2.1)
  obtain ⟨M3, hM3⟩ : ∃ M3, M3 = sI (sI (sI M2 122 (2 * 1) (nI cm.1)) 122 (2 * 1 + 1) (nI cm.2.1)) 116 8 (nI (1 + 1)) := ⟨_, rfl⟩
  rw [← hM3] at e2
  have f3 : Fr (fun a j => a = 122 ∨ (a = 116 ∧ j = 8)) M2 M3 := by rw [hM3]; exact ((Fr.put (P := fun a j => a = 122 ∨ (a = 116 ∧ j = 8)) (Or.inl rfl)).trans (Fr.put (Or.inl rfl))).trans (Fr.put (Or.inr ⟨rfl, rfl⟩))
  have d3 : M3.1 116 14 = nI q.2 := by rw [f3.1 116 14 (by omega), f2.1 116 14 (by omega), f1.1 116 14 (by omega)]; exact hd
  have e3 : fX9_reports N Z 116 (2 : Int32) (nI q.1) (nI q.2) M3 = _ := m_reports (i := 2) gm (by omega) (nI q.1) (nI q.2)
  obtain ⟨M4, hM4⟩ : ∃ M4, M4 = sI (sI (sI M3 122 (2 * 2) (nI q.1)) 122 (2 * 2 + 1) (nI q.2)) 116 8 (nI (2 + 1)) := ⟨_, rfl⟩
  rw [← hM4] at e3
  have f4 : Fr (fun a j => a = 122 ∨ (a = 116 ∧ j = 8)) M3 M4 := by rw [hM4]; exact ((Fr.put (P := fun a j => a = 122 ∨ (a = 116 ∧ j = 8)) (Or.inl rfl)).trans (Fr.put (Or.inl rfl))).trans (Fr.put (Or.inr ⟨rfl, rfl⟩))
  have f5 : Fr (fun a j => a = 116 ∧ j = 9) M4 (sI M4 116 9 (nI 1)) := Fr.put (P := fun a j => a = 116 ∧ j = 9) ⟨rfl, rfl⟩
  have FF : Fr (fun a j => a = 117 ∨ a = 122 ∨ (a = 116 ∧ (j = 8 ∨ j = 9))) M (sI M4 116 9 (nI 1)) := by
    refine ((((f1.mono (fun a j e => Or.inl e)).trans (f2.mono ?_)).trans (f3.mono ?_)).trans (f4.mono ?_)).trans (f5.mono (fun a j e => Or.inr (Or.inr ⟨e.1, Or.inr e.2⟩)))
    all_goals exact fun a j e => e.elim (fun e => Or.inr (Or.inl e)) (fun e => Or.inr (Or.inr ⟨e.1, Or.inl e.2⟩))
  refine ⟨sI M4 116 9 (nI 1), 0, ?_, FF.mo (fun a j e => by omega), sI_same _ _ _ _, ?_, ?_⟩
  · have q5 : inB (nI (5 * k)) (Z.2.2.1 127) = true := by rw [a6, i_inB (by omega)]; exact decide_eq_true (by omega)
    have q6 : inB (nI (5 * k + 1)) (Z.2.2.1 127) = true := by rw [a6, i_inB (by omega)]; exact decide_eq_true (by omega)
    unfold fX9_perform_169
    rw [if_neg (by rw [i_0, i_eq (by omega) (by omega)]; omega), ck_t o1, r22, bnd1_some, r0, bnd1_some, m_copies hN b5 b6 g4 g6 (by omega), bnd2_some, ← hM1, if_neg (by rw [i_0, i_le (by omega) (by omega)]; omega), e1, bnd2_some, r20, bnd1_some, ck_t a5, ck_t q5, nI_1, ck_t q6, i_cl (by omega), i_cl (by omega), t0, t1, e2, bnd2_some, d3, e3, bnd2_some, show fX9_fails N Z 116 (1 : Int32) M4 = some (0, sI M4 116 9 (nI 1)) from m_fails gm _, bnd2_some]
  · exact R1.fr (P := fun a j => a = 122 ∨ (a = 116 ∧ (j = 8 ∨ j = 9))) (((f2.mono (fun a j e => by omega)).trans (f3.mono (fun a j e => by omega))).trans (f4.mono (fun a j e => by omega)) |>.trans (f5.mono (fun a j e => by omega))) (fun j => by omega)
  · obtain ⟨c1, c2, c3, t, c4⟩ := hR
    refine ⟨c1.fr FF (by omega) (fun j => by omega), c2.fr FF (by omega) (fun j => by omega), ⟨by omega, by rw [sI_ne _ _ (by omega), hM4, sI_same], fun i hi => ?_⟩, t, c4.fr FF (by omega) (by omega) (fun j => by omega)⟩
    rw [sI_ne _ _ (by omega), sI_ne _ _ (by omega), hM4]
    rcases (show i = 0 ∨ i = 1 ∨ i = 2 by omega) with rfl | rfl | rfl
    · rw [sI_ne _ _ (by omega), sI_ne _ _ (by omega), sI_ne _ _ (by omega), sI_ne _ _ (by omega), sI_ne _ _ (by omega), sI_ne _ _ (by omega), hM3]
      rw [sI_ne _ _ (by omega), sI_ne _ _ (by omega), sI_ne _ _ (by omega), sI_ne _ _ (by omega), sI_ne _ _ (by omega), sI_ne _ _ (by omega), hM2]
      rw [sI_ne _ _ (by omega), sI_ne _ _ (by omega), sI_same, sI_ne _ _ (by omega), sI_same]
      exact ⟨rfl, rfl⟩
    · rw [sI_ne _ _ (by omega), sI_ne _ _ (by omega), sI_ne _ _ (by omega), sI_ne _ _ (by omega), sI_ne _ _ (by omega), sI_ne _ _ (by omega), hM3]
      rw [sI_ne _ _ (by omega), sI_ne _ _ (by omega), sI_same, sI_ne _ _ (by omega), sI_same]
      exact ⟨rfl, rfl⟩
    · rw [sI_ne _ _ (by omega), sI_ne _ _ (by omega), sI_same, sI_ne _ _ (by omega), sI_same]
      exact ⟨rfl, rfl⟩
theorem p_169bad (hN : 5000 ≤ N) (hM : ModAt Z) (K : Nat → Int32 → mM → Option (Int32 × mM)) {M : mM} {T : Nat} {v w tk : Int32} (hA : RowAt M 128 A) (hR : MR M sv H n rp r tx len) :
    RunM M A sv H n rp r tx len T (.inl none) (fX9_perform_169 N Z K 116 v w tk (-1) M) := by
  have gm := hM
  obtain ⟨o1, ⟨r0, -, -, -, -, -, -, -, -, -, r20, r22⟩, ⟨g4, g5, g6⟩, -, -, -, -, -, -, -, -, -, -, ⟨b4, b5, b6⟩⟩ := hM
  obtain ⟨M1, hM1⟩ : ∃ M1, M1 = fillA M 117 (M.1 128) 121 := ⟨_, rfl⟩
  have f1 : Fr (fun a _ => a = 117) M M1 := by rw [hM1]; exact (Same.fill (S := fun x => x = 117) rfl).fr
  have R1 : RowAt M1 117 A := by rw [hM1]; exact hA.fill
  have FF : Fr (fun a j => a = 117 ∨ (a = 116 ∧ j = 9)) M (sI M1 116 9 (nI 1)) := (f1.mono (fun a j e => Or.inl e)).trans (Fr.put (Or.inr ⟨rfl, rfl⟩))
  refine ⟨sI M1 116 9 (nI 1), 0, ?_, FF.mo (fun a j e => by omega), sI_same _ _ _ _, fun i hi => by rw [sI_ne _ _ (by omega)]; exact R1 i hi, hR.fr FF (fun a j e => by unfold onMr; omega)⟩
  unfold fX9_perform_169
  rw [if_neg (by decide), ck_t o1, r22, bnd1_some, r0, bnd1_some, m_copies hN b5 b6 g4 g6 (by omega), bnd2_some, ← hM1, if_pos (by decide), show fX9_fails N Z 116 (1 : Int32) M1 = some (0, sI M1 116 9 (nI 1)) from m_fails gm _, bnd2_some]
theorem p_run (hN : 5000 ≤ N) (hM : ModAt Z) {c0 : Nat} (wA : WF A c0) : ∀ (L : List Cmd) (k fu : Nat) (B : Row) (c : Nat) (M : mM), (∀ cm ∈ L, CmOk cm) → L.length < fu → k + L.length ≤ 30 → RowAt M 117 B → WF B c → c + L.length ≤ 1000000 → RowAt M 128 A → ToldL M k L → M.1 116 21 = nI (k + L.length) → M.1 116 9 = nI 0 → MR M sv H n rp r tx len →
    RunM M A sv H n rp r tx len (k + L.length) (runN k B L) (fX9_perform_40 N Z fu 116 (nI k) M) := by
  have gm := hM
  obtain ⟨o1, ⟨r0, -, -, -, -, -, -, -, -, -, r20, r22⟩, ⟨g4, g5, g6⟩, -, -, -, -, -, -, -, -, -, ⟨a4, a5, a6⟩, ⟨b4, b5, b6⟩⟩ := hM
  intro L
  induction L with
  | nil =>
    intro k fu B c M hok hfu hk hR w hc hA hT hn hz hMR
    obtain ⟨fu, rfl⟩ : ∃ q, fu = q + 1 := ⟨fu - 1, by omega⟩
    obtain ⟨M1, e1, P1, f1⟩ := m_changes (N := N) hN gm b5 b6 (by omega) (by omega) hA hMR.2.1
    have hl : k + ([] : List Cmd).length = k := rfl
    rw [hl] at hn ⊢
    have hk30 : k ≤ 30 := hk
    refine ⟨M1, ?_, f1.mo (fun a j e => by unfold onP at e; omega), ?_, hR.fr f1 (fun j e => by unfold onP at e; omega), ?_⟩
    · rw [fX9_perform_40, ck_t o1, hn, if_pos (by rw [i_le (by omega) (by omega)]; omega), r22, bnd1_some, e1, bnd2_some, f1.1 116 21 (fun e => by unfold onP at e; omega), hn]
    · rw [f1.1 116 9 (fun e => by unfold onP at e; omega)]; exact hz
    · obtain ⟨c1, c2, c3, t, c4⟩ := hMR
      exact ⟨c1.fr f1 (fun e => by unfold onP at e; omega) (fun j e => by unfold onP at e; omega), P1, c3.fr f1 (fun e => by unfold onP at e; omega) (fun j e => by unfold onP at e; omega), t, c4.fr f1 (fun e => by unfold onP at e; omega) (fun e => by unfold onP at e; omega) (fun j e => by unfold onP at e; omega)⟩
  | cons cm L ih =>
    intro k fu B c M hok hfu hk hR w hc hA hT hn hz hMR
    obtain ⟨fu, rfl⟩ : ∃ q, fu = q + 1 := ⟨fu - 1, by omega⟩
    rw [List.length_cons] at hfu hk hc hn ⊢
    have h1 := w.1
    have hcm : CmOk cm := hok cm List.mem_cons_self
    have T0 : Told M k cm := hT 0 cm rfl
    obtain ⟨t0, t1, t2, t3, t4⟩ := T0
    have T0 : Told M k cm := hT 0 cm rfl
    have ib : ∀ i, i < 200 → inB (nI i) (Z.2.2.1 127) = true := fun i hi => by rw [a6, i_inB (by omega)]; exact decide_eq_true hi
    have q0 : (5 : Int32) * nI k = nI (5 * k) := by rw [i_5, pk_mul]
    have q1 : nI (5 * k) + 1 = nI (5 * k + 1) := nI_add _ 1
    have q2 : nI (5 * k) + 2 = nI (5 * k + 2) := nI_add _ 2
    have q3 : nI (5 * k) + 3 = nI (5 * k + 3) := nI_add _ 3
    have q4 : nI (5 * k) + 4 = nI (5 * k + 4) := nI_add _ 4
    have c0' : (nI (5 * k)).toNatClampNeg = 5 * k := i_cl (by omega)
    have c1' : (nI (5 * k + 1)).toNatClampNeg = 5 * k + 1 := i_cl (by omega)
    have c2' : (nI (5 * k + 2)).toNatClampNeg = 5 * k + 2 := i_cl (by omega)
    have c3' : (nI (5 * k + 3)).toNatClampNeg = 5 * k + 3 := i_cl (by omega)
    have c4' : (nI (5 * k + 4)).toNatClampNeg = 5 * k + 4 := i_cl (by omega)
    obtain ⟨kk0, kk1, kk2, kk3⟩ := hcm
    have hcm : CmOk cm := ⟨kk0, kk1, kk2, kk3⟩
    have ip := m_isPlace (N := N) gm w hR (p := cm.2.1) (by omega)
    have in14 : fX9_in N Z (nI cm.2.2.2.1) (1 : Int32) (4 : Int32) M = some (if 1 ≤ cm.2.2.2.1 ∧ cm.2.2.2.1 ≤ 4 then 1 else 0, M) := m_in (l := 1) (h := 4) (by omega) (by omega) (by omega)
    have i2 : (nI cm.1 = (2 : Int32)) ↔ cm.1 = 2 := by rw [i_2, i_eq (by omega) (by omega)]
    obtain ⟨K, hK⟩ : ∃ K : Nat → Int32 → mM → Option (Int32 × mM), K = (fun w0 w2 M9 => fX9_perform_40 N Z fu w0 w2 M9) := ⟨_, rfl⟩
    have go : cmOkB B cm = true → RunM M A sv H n rp r tx len (k + (L.length + 1)) (runN k B (cm :: L)) (fX9_perform_122 N Z K 116 (nI k) (nI (5 * k)) (if cm.2.2.2.2 then 1 else 0) (1 : Int32) M) := fun hb => by
      obtain ⟨hp, hcl⟩ := cmOk_p hb
      obtain ⟨M1, e1, f1, R1, d1⟩ := m_against (N := N) (x := nI cm.2.2.1) hN gm w (by omega) hR kk0 hp hcl
      have hlx : (nI cm.2.2.1).toNatClampNeg = cm.2.2.1 := i_cl (by omega)
      rw [hlx] at e1 d1
      have e1' : fX9_against N Z 116 (nI cm.1) (nI cm.2.1) (nI cm.2.2.1) (if cm.2.2.2.2 then 1 else 0) (nI cm.2.2.2.1) M = some (nI (rN (cmJ B cm)), M1) := e1
      have d1' : ∀ q, cmJ B cm = some q → M1.1 116 14 = nI q.2 := d1
      have A1 : RowAt M1 128 A := hA.fr f1 (fun j e => by unfold onA at e; omega)
      have MR1 := hMR.fr f1 (fun a j e => onA_mr e)
      have tl : Told M1 k cm := ⟨by rw [f1.1 _ _ (fun e => by unfold onA at e; omega)]; exact t0, by rw [f1.1 _ _ (fun e => by unfold onA at e; omega)]; exact t1, by rw [f1.1 _ _ (fun e => by unfold onA at e; omega)]; exact t2, by rw [f1.1 _ _ (fun e => by unfold onA at e; omega)]; exact t3, by rw [f1.1 _ _ (fun e => by unfold onA at e; omega)]; exact t4⟩
      have st : fX9_perform_122 N Z K 116 (nI k) (nI (5 * k)) (if cm.2.2.2.2 then 1 else 0) (1 : Int32) M = fX9_perform_169 N Z K 116 (nI k) (nI (5 * k)) (if cm.2.2.2.2 then 1 else 0) (nI (rN (cmJ B cm))) M1 := by
        unfold fX9_perform_122
        rw [if_neg (by decide), ck_t o1, r20, bnd1_some, ck_t a5, ck_t (ib _ (by omega)), q1, ck_t (ib _ (by omega)), q2, ck_t (ib _ (by omega)), q3, ck_t (ib _ (by omega)), c0', c1', c2', c3', t0, t1, t2, t3, e1', bnd2_some]
      rw [st]
      refine RunM.pre ?_ (f1.mo (fun a j e => by unfold onA at e; omega))
      cases hj : cmJ B cm with
      | some q =>
        have hr := jst_rn (show jst B cm.1 cm.2.1 (cmL' B cm) cm.2.2.2.1 cm.2.2.2.2 = some q from hj)
        rw [runN_no hb hj]
        have := p_169no (N := N) (tk := (if cm.2.2.2.2 then 1 else 0)) (B := B) hN gm K A1 MR1 tl (by omega) hr (d1' q hj)
        exact this
      | none =>
        have ok := jst_none_ok (told := cm.2.2.1) w hp kk0 rfl hcl (show jst B cm.1 cm.2.1 (cmL' B cm) cm.2.2.2.1 cm.2.2.2.2 = none from hj)
        have ok : OkA B cm.1 cm.2.1 (cmL' B cm) cm.2.2.2.1 cm.2.2.2.2 := ok
        have hw : fX9_does N Z 116 (nI cm.1) (nI cm.2.1) (nI cm.2.2.1) (if cm.2.2.2.2 then 1 else 0) (nI cm.2.2.2.1) M1 = fX9_does N Z 116 (nI cm.1) (nI cm.2.1) (nI (cmL' B cm)) (if cm.2.2.2.2 then 1 else 0) (nI cm.2.2.2.1) M1 := by
          by_cases z : cm.1 = 0
          · rw [z]
            unfold fX9_does fX9_does_10
            simp only [show nI 0 = (0 : Int32) from rfl, if_true]
          · have : cmL' B cm = cm.2.2.1 := by unfold cmL' lvA; rw [if_neg z]
            rw [this]
        obtain ⟨M2, e2, R2, s2⟩ := m_does (N := N) hN gm R1 w (by omega) ok
        have R2 : RowAt M2 117 (cmDo B cm) := R2
        have w2 : WF (cmDo B cm) (c + 1) := doA_wf w (by omega) ok
        have s2' : Fr (fun a _ => on117 a) M1 M2 := s2.fr
        have TL : ToldL M2 (k + 1) L := ToldL.fr (P := fun a _ => on117 a) (ToldL.fr (P := onA) (fun i cm' hi => by
          have := hT (i + 1) cm' (by rw [List.getElem?_cons_succ]; exact hi)
          rw [show k + 1 + i = k + (i + 1) by omega]; exact this) f1 (fun j e => by unfold onA at e; omega)) s2' (fun j e => by unfold on117 at e; omega)
        have := ih (k + 1) fu (cmDo B cm) (c + 1) M2 (fun c hc => hok c (List.mem_cons_of_mem _ hc)) (by omega) (by omega) R2 w2 (by omega) (A1.fr s2' (fun j e => by unfold on117 at e; omega)) TL (by
          rw [s2.1 116 (fun e => by unfold on117 at e; omega), f1.1 116 21 (fun e => by unfold onA at e; omega), hn]; congr 1; omega) (by
          rw [s2.1 116 (fun e => by unfold on117 at e; omega), f1.1 116 9 (fun e => by unfold onA at e; omega)]; exact hz) (MR1.fr s2' (fun a j e => by unfold on117 at e; unfold onMr; omega))
        rw [runN_go hb hj, show k + (L.length + 1) = k + 1 + L.length by omega]
        refine RunM.pre ?_ (s2'.mo (fun a j e => by unfold on117 at e; omega))
        unfold fX9_perform_169
        obtain ⟨u0, u1, u2, u3, -⟩ := tl
        rw [if_pos (show nI (rN none) = 0 from rfl), ck_t o1, r20, bnd1_some, ck_t a5, ck_t (ib _ (by omega)), q1, ck_t (ib _ (by omega)), q2, ck_t (ib _ (by omega)), q3, ck_t (ib _ (by omega)), c0', c1', c2', c3', u0, u1, u2, u3, hw, e2, bnd2_some, nI_1, hK]
        exact this
    have bad : cmOkB B cm = false → RunM M A sv H n rp r tx len (k + (L.length + 1)) (runN k B (cm :: L)) (fX9_perform_122 N Z K 116 (nI k) (nI (5 * k)) (if cm.2.2.2.2 then 1 else 0) (0 : Int32) M) := fun hb => by
      rw [runN_bad hb]
      have := p_169bad (N := N) (T := k + (L.length + 1)) (v := nI k) (w := nI (5 * k)) (tk := (if cm.2.2.2.2 then 1 else 0)) hN gm K hA hMR
      unfold fX9_perform_122
      rw [if_pos rfl]; exact this
    have p69 : RunM M A sv H n rp r tx len (k + (L.length + 1)) (runN k B (cm :: L)) (fX9_perform_69 N Z K 116 (nI k) (nI (5 * k)) (if cm.2.2.2.2 then 1 else 0) M) := by
      unfold fX9_perform_69
      rw [ck_t o1, r20, bnd1_some, ck_t a5, q1, ck_t (ib _ (by omega)), c1', t1, ip, bnd2_some]
      by_cases z1 : cm.2.1 < B 0
      · rw [if_pos z1, if_neg (by decide), ck_t (ib _ (by omega)), c0', t0]
        by_cases z2 : cm.1 = 2
        · rw [if_pos (i2.2 z2)]
          cases htk : cm.2.2.2.2 with
          | true =>
            have hb : cmOkB B cm = true := by unfold cmOkB; rw [htk, decide_eq_true z1]; simp
            have := go hb
            rw [htk] at this
            rw [if_neg (by decide)]; exact this
          | false =>
            rw [if_pos (by decide), q3, ck_t (ib _ (by omega)), c3', t3, in14, bnd2_some]
            by_cases z3 : 1 ≤ cm.2.2.2.1 ∧ cm.2.2.2.1 ≤ 4
            · have hb : cmOkB B cm = true := by unfold cmOkB; rw [htk, decide_eq_true z1, decide_eq_true z3]; simp
              have := go hb
              rw [htk] at this
              rw [if_pos z3, if_neg (by decide)]; exact this
            · have hb : cmOkB B cm = false := by unfold cmOkB; rw [htk, decide_eq_true z1, decide_eq_true z2, decide_eq_false z3]; rfl
              have := bad hb
              rw [htk] at this
              rw [if_neg z3, if_pos rfl]; exact this
        · have hb : cmOkB B cm = true := by unfold cmOkB; rw [decide_eq_true z1, decide_eq_false z2]; simp
          rw [if_neg (fun e => z2 (i2.1 e))]; exact go hb
      · have hb : cmOkB B cm = false := by unfold cmOkB; rw [decide_eq_false z1]; rfl
        rw [if_neg z1, if_pos rfl]; exact bad hb
    have st : fX9_perform_40 N Z (fu + 1) 116 (nI k) M = fX9_perform_69 N Z K 116 (nI k) (nI (5 * k)) (if cm.2.2.2.2 then 1 else 0) M := by
      rw [fX9_perform_40, ck_t o1, hn, if_neg (by rw [i_le (by omega) (by omega)]; omega), r20, bnd1_some, ck_t a5, q0, q4, ck_t (ib _ (by omega)), c4', t4, hK]
      cases cm.2.2.2.2 with
      | true => rw [if_pos (by decide)]; rfl
      | false => rw [if_neg (by decide)]; rfl
    rw [st]; exact p69
end RM
