/-! ===== LAYER 3: texts: what both read; the class's reading ===== -/
abbrev Cmd : Type := Nat × Nat × Nat × Nat × Bool
def isC (tx : Nat → Nat) (len q ch : Nat) : Bool := decide (q < len ∧ tx q = ch)
def dgN (tx : Nat → Nat) (len q : Nat) : Option Nat := if q < len ∧ 48 ≤ tx q ∧ tx q ≤ 57 then some (tx q - 48) else none
def whC (x : Nat) : Option Nat := if x = 98 then some 3 else if x = 100 then some 2 else if x = 101 then some 0 else if x = 108 then some 5 else if x = 116 then some 4 else none
def whN (tx : Nat → Nat) (len q : Nat) : Option Nat := if q < len then whC (tx q) else none
def cmdT (tx : Nat → Nat) (len w p l q : Nat) (tk : Bool) : Nat × Option Cmd :=
  if w = 2 ∧ isC tx len q 42 = true then (match dgN tx len (q + 1) with
    | none => (q + 1, none)
    | some cl => (q + 2, some (w, p, l, cl, tk)))
  else (q, some (w, p, l, 1, tk))
def cmdL (tx : Nat → Nat) (len w p q : Nat) (tk : Bool) : Nat × Option Cmd :=
  if w = 0 then (q, some (w, p, 0, 1, tk)) else if isC tx len q 46 = true then (match dgN tx len (q + 1) with
    | none => (q + 1, none)
    | some l => cmdT tx len w p l (q + 2) tk)
  else (q, none)
def cmdW (tx : Nat → Nat) (len q : Nat) (tk : Bool) : Nat × Option Cmd := match whN tx len q with
  | none => (q, none)
  | some w => match dgN tx len (q + 1) with
    | none => (q + 1, none)
    | some p => cmdL tx len w p (q + 2) tk
def cmdN (tx : Nat → Nat) (len q : Nat) : Nat × Option Cmd := cmdW tx len (if isC tx len q 45 = true then q + 1 else q) (isC tx len q 45)
def txtN (tx : Nat → Nat) (len : Nat) : Nat → Nat → Nat ⊕ List Cmd
  | 0, q => .inl q
  | f + 1, q => match cmdN tx len q with
    | (q', none) => .inl q'
    | (q', some cm) => if q' = len then .inr [cm] else if isC tx len q' 59 = true then (match txtN tx len f (q' + 1) with
      | .inl e => .inl e
      | .inr L => .inr (cm :: L)) else .inl q'
theorem dgN_some {tx : Nat → Nat} {len q d : Nat} (h : dgN tx len q = some d) : q < len ∧ d = tx q - 48 ∧ 48 ≤ tx q ∧ tx q ≤ 57 ∧ d ≤ 9 := by
  unfold dgN at h
  by_cases c : q < len ∧ 48 ≤ tx q ∧ tx q ≤ 57
  · rw [if_pos c] at h; cases h; exact ⟨c.1, rfl, c.2.1, c.2.2, by omega⟩
  · rw [if_neg c] at h; cases h
theorem whC_le {x w : Nat} (h : whC x = some w) : w = 0 ∨ (2 ≤ w ∧ w ≤ 5) := by
  unfold whC at h
  repeat' split at h
  all_goals cases h
  all_goals omega
theorem whN_some {tx : Nat → Nat} {len q w : Nat} (h : whN tx len q = some w) : q < len ∧ (w = 0 ∨ (2 ≤ w ∧ w ≤ 5)) := by
  unfold whN at h
  by_cases c : q < len
  · rw [if_pos c] at h; exact ⟨c, whC_le h⟩
  · rw [if_neg c] at h; cases h
/-- where reading stands, and what a command is like -/
def CmOk (cm : Cmd) : Prop := (cm.1 = 0 ∨ (2 ≤ cm.1 ∧ cm.1 ≤ 5)) ∧ cm.2.1 ≤ 9 ∧ cm.2.2.1 ≤ 9 ∧ cm.2.2.2.1 ≤ 9
theorem cmdT_pos {tx : Nat → Nat} {len w p l q : Nat} {tk : Bool} (hq : q ≤ len) : (cmdT tx len w p l q tk).1 ≤ q + 2 ∧ ((cmdT tx len w p l q tk).2 ≠ none → q ≤ (cmdT tx len w p l q tk).1 ∧ (cmdT tx len w p l q tk).1 ≤ len) ∧ (∀ cm, (cmdT tx len w p l q tk).2 = some cm → ∃ cl, cl ≤ 9 ∧ cm = (w, p, l, cl, tk)) := by
  unfold cmdT
  by_cases c : w = 2 ∧ isC tx len q 42 = true
  · rw [if_pos c]
    cases hd : dgN tx len (q + 1) with
    | none => exact ⟨by show q + 1 ≤ q + 2; omega, fun h => absurd rfl h, fun cm h => by cases h⟩
    | some cl =>
      have := dgN_some hd
      exact ⟨by show q + 2 ≤ q + 2; omega, fun _ => ⟨by show q ≤ q + 2; omega, by show q + 2 ≤ len; omega⟩, fun cm h => ⟨cl, this.2.2.2.2, by cases h; rfl⟩⟩
  · rw [if_neg c]
    exact ⟨by show q ≤ q + 2; omega, fun _ => ⟨Nat.le_refl _, hq⟩, fun cm h => ⟨1, by omega, by cases h; rfl⟩⟩
theorem cmdL_pos {tx : Nat → Nat} {len w p q : Nat} {tk : Bool} (hq : q ≤ len) : (cmdL tx len w p q tk).1 ≤ q + 4 ∧ ((cmdL tx len w p q tk).2 ≠ none → q ≤ (cmdL tx len w p q tk).1 ∧ (cmdL tx len w p q tk).1 ≤ len) ∧ (∀ cm, (cmdL tx len w p q tk).2 = some cm → ∃ l cl, l ≤ 9 ∧ cl ≤ 9 ∧ cm = (w, p, l, cl, tk)) := by
  unfold cmdL
  by_cases c : w = 0
  · rw [if_pos c]
    exact ⟨by show q ≤ q + 4; omega, fun _ => ⟨Nat.le_refl _, hq⟩, fun cm h => ⟨0, 1, by omega, by omega, by cases h; rfl⟩⟩
  · rw [if_neg c]
    by_cases c2 : isC tx len q 46 = true
    · rw [if_pos c2]
      cases hd : dgN tx len (q + 1) with
      | none => exact ⟨by show q + 1 ≤ q + 4; omega, fun h => absurd rfl h, fun cm h => by cases h⟩
      | some l =>
        have h1 := dgN_some hd
        obtain ⟨a1, a2, a3⟩ := cmdT_pos (tx := tx) (w := w) (p := p) (l := l) (tk := tk) (show q + 2 ≤ len by omega)
        refine ⟨by show (cmdT tx len w p l (q + 2) tk).1 ≤ q + 4; omega, fun h => ?_, fun cm h => ?_⟩
        · have := a2 h; exact ⟨by show q ≤ (cmdT tx len w p l (q + 2) tk).1; omega, this.2⟩
        · obtain ⟨cl, b1, b2⟩ := a3 cm h; exact ⟨l, cl, h1.2.2.2.2, b1, b2⟩
    · rw [if_neg c2]
      exact ⟨by show q ≤ q + 4; omega, fun h => absurd rfl h, fun cm h => by cases h⟩
theorem cmdN_pos {tx : Nat → Nat} {len q : Nat} : (cmdN tx len q).1 ≤ q + 7 ∧ ((cmdN tx len q).2 ≠ none → q + 2 ≤ (cmdN tx len q).1 ∧ (cmdN tx len q).1 ≤ len) ∧ (∀ cm, (cmdN tx len q).2 = some cm → CmOk cm) := by
  obtain ⟨q1, hq1⟩ : ∃ q1, q1 = (if isC tx len q 45 = true then q + 1 else q) := ⟨_, rfl⟩
  have hb : q ≤ q1 ∧ q1 ≤ q + 1 := by rw [hq1]; split <;> omega
  unfold cmdN
  rw [← hq1]
  unfold cmdW
  cases hw : whN tx len q1 with
  | none => exact ⟨by show q1 ≤ q + 7; omega, fun h => absurd rfl h, fun cm h => by cases h⟩
  | some w =>
    cases hd : dgN tx len (q1 + 1) with
    | none => exact ⟨by show q1 + 1 ≤ q + 7; omega, fun h => absurd rfl h, fun cm h => by cases h⟩
    | some p =>
      have h1 := whN_some hw
      have h2 := dgN_some hd
      obtain ⟨a1, a2, a3⟩ := cmdL_pos (tx := tx) (w := w) (p := p) (tk := isC tx len q 45) (show q1 + 2 ≤ len by omega)
      refine ⟨by show (cmdL tx len w p (q1 + 2) (isC tx len q 45)).1 ≤ q + 7; omega, fun h => ?_, fun cm h => ?_⟩
      · have := a2 h; exact ⟨by show q + 2 ≤ (cmdL tx len w p (q1 + 2) (isC tx len q 45)).1; omega, this.2⟩
      · obtain ⟨l, cl, b1, b2, b3⟩ := a3 cm h
        rw [b3]; exact ⟨h1.2, h2.2.2.2.2, b1, b2⟩
/-- the class's text -/
def TC (M : mM) (tx : Nat → Nat) (len q : Nat) : Prop := M.1 114 0 = nI len ∧ M.1 114 1 = nI q ∧ (∀ i, i < len → M.1 115 i = nI (tx i)) ∧ len ≤ 80 ∧ (∀ i, i < len → tx i < 65536)
def TxAt (Z : mZ) : Prop := okO Z 114 0 = true ∧ Z.2.2.2 114 2 = some 115 ∧ okO Z 115 21 = true ∧ Z.2.2.1 115 = 80
def onX (x j : Nat) : Prop := (x = 114 ∧ j = 1) ∨ x = 89
def ltI (tx : Nat → Nat) (len q : Nat) : Int32 := if q < len then nI (tx q) else -1
theorem m1_ne : ∀ {x : Nat}, x < 2147483648 → ¬ (-1 : Int32) = nI x := fun {x} h e => by
  have h1 := nI_pos (n := x) h
  rw [← e] at h1
  exact h1 (by decide)
theorem JobX.lev {M : mM} {w what p cls : Nat} {x : Int32} {tk : Bool} (h : JobX M w what p x cls tk) (y : Int32) : JobX (sI M w 2 y) w what p y cls tk :=
  ⟨by rw [sI_ne _ _ (by omega)]; exact h.1, by rw [sI_ne _ _ (by omega)]; exact h.2.1, sI_same _ _ _ _, by rw [sI_ne _ _ (by omega)]; exact h.2.2.2.1, by rw [sI_ne _ _ (by omega)]; exact h.2.2.2.2⟩
theorem JobX.kls {M : mM} {w what p cls : Nat} {x : Int32} {tk : Bool} (h : JobX M w what p x cls tk) (y : Nat) : JobX (sI M w 3 (nI y)) w what p x y tk :=
  ⟨by rw [sI_ne _ _ (by omega)]; exact h.1, by rw [sI_ne _ _ (by omega)]; exact h.2.1, by rw [sI_ne _ _ (by omega)]; exact h.2.2.1, sI_same _ _ _ _, by rw [sI_ne _ _ (by omega)]; exact h.2.2.2.2⟩
section TX
variable {N : Nat} {Z : mZ} {tx : Nat → Nat} {len q : Nat}
theorem TC.fr {P : Nat → Nat → Prop} {M M' : mM} (h : TC M tx len q) (s : Fr P M M') (h0 : ¬ P 114 0) (h1 : ¬ P 114 1) (h2 : ∀ j, ¬ P 115 j) : TC M' tx len q :=
  ⟨by rw [s.1 _ _ h0]; exact h.1, by rw [s.1 _ _ h1]; exact h.2.1, fun i hi => by rw [s.1 _ _ (h2 i)]; exact h.2.2.1 i hi, h.2.2.2.1, h.2.2.2.2⟩
theorem TC.go {M : mM} (h : TC M tx len q) (r : Nat) : TC (sI M 114 1 (nI r)) tx len r :=
  ⟨by rw [sI_ne _ _ (by omega)]; exact h.1, sI_same _ _ _ _, fun i hi => by rw [sI_ne _ _ (by omega)]; exact h.2.2.1 i hi, h.2.2.2.1, h.2.2.2.2⟩
theorem go_fr1 {M : mM} {v : Int32} : Fr (fun x j => x = 114 ∧ j = 1) M (sI M 114 1 v) := Fr.put ⟨rfl, rfl⟩
theorem go_fr {M : mM} {v : Int32} : Fr onX M (sI M 114 1 v) := Fr.put (Or.inl ⟨rfl, rfl⟩)
theorem x_letter (hT : TxAt Z) {M : mM} (h : TC M tx len q) (hq : q < 100) : fX0_letter N Z 114 M = some (ltI tx len q, M) := by
  obtain ⟨o1, o2, o3, o4⟩ := hT
  obtain ⟨h0, h1, h2, h3, h4⟩ := h
  unfold fX0_letter ltI
  rw [ck_t o1, h0, h1, if_neg (nI_pos (by omega))]
  by_cases c : q < len
  · rw [if_neg (by rw [i_le (by omega) (by omega)]; omega), o2, bnd1_some, ck_t o3, o4, if_pos (by rw [i_ofNat, i_lt (by omega) (by omega)]; omega), ck_t (by rw [i_inB (by omega)]; exact decide_eq_true (by omega)), i_cl (by omega), h2 q c, if_pos c]
  · rw [if_pos (by rw [i_le (by omega) (by omega)]; omega), if_neg c]
theorem lt_eq (hb : ∀ i, i < len → tx i < 65536) {ch : Nat} (hch : ch < 65536) : (ltI tx len q = nI ch) ↔ isC tx len q ch = true := by
  unfold ltI isC
  rw [decide_eq_true_iff]
  by_cases c : q < len
  · rw [if_pos c, i_eq (by have := hb q c; omega) (by omega)]
    exact ⟨fun h => ⟨c, h⟩, fun h => h.2⟩
  · rw [if_neg c]
    exact ⟨fun h => absurd h (m1_ne (by omega)), fun h => absurd h.1 c⟩
theorem x_passed (hT : TxAt Z) {M : mM} (h : TC M tx len q) (hq : q < 100) {ch : Nat} (hch : ch < 65536) : fX0_isPassed N Z 114 (nI ch) M = some (if isC tx len q ch then 1 else 0, if isC tx len q ch then sI M 114 1 (nI (q + 1)) else M) := by
  have e := lt_eq (q := q) h.2.2.2.2 hch
  unfold fX0_isPassed
  rw [ck_t hT.1, x_letter hT h hq, bnd2_some, h.2.1, nI_1]
  by_cases c : isC tx len q ch = true
  · rw [if_pos (e.2 c), if_pos c, if_pos c]
  · rw [if_neg (fun x => c (e.1 x)), if_neg c, if_neg c]
theorem x_digit (hT : TxAt Z) {M : mM} (h : TC M tx len q) (hq : q < 100) : fX0_readDigit N Z 114 M = match dgN tx len q with
    | none => some (-1, M)
    | some d => some (nI d, sI M 114 1 (nI (q + 1))) := by
  unfold fX0_readDigit
  rw [ck_t hT.1, x_letter hT h hq, bnd2_some, h.2.1, nI_1]
  unfold ltI dgN
  by_cases c : q < len
  · have hb := h.2.2.2.2 q c
    rw [if_pos c]
    by_cases c2 : tx q < 48
    · rw [if_pos (by rw [i_48, i_lt (by omega) (by omega)]; exact c2), if_neg (by omega)]
    · rw [if_neg (by rw [i_48, i_lt (by omega) (by omega)]; exact c2)]
      by_cases c3 : tx q ≤ 57
      · rw [if_pos (by rw [i_57, i_le (by omega) (by omega)]; exact c3), if_pos ⟨c, by omega, c3⟩, i_48, i_sub (by omega)]
      · rw [if_neg (by rw [i_57, i_le (by omega) (by omega)]; exact c3), if_neg (by omega)]
  · rw [if_neg c, if_pos (by decide), if_neg (by omega)]
theorem x_whatOf {M : mM} (hb : ∀ i, i < len → tx i < 65536) : fX0_whatOf N Z (ltI tx len q) M = some (optI (whN tx len q), M) := by
  unfold fX0_whatOf ltI whN
  by_cases c : q < len
  · have h := hb q c
    rw [if_pos c, if_pos c]
    unfold whC
    simp only [i_eq (show tx q < 2147483648 by omega) (show 98 < 2147483648 by omega), i_eq (show tx q < 2147483648 by omega) (show 100 < 2147483648 by omega), i_eq (show tx q < 2147483648 by omega) (show 101 < 2147483648 by omega), i_eq (show tx q < 2147483648 by omega) (show 108 < 2147483648 by omega), i_eq (show tx q < 2147483648 by omega) (show 116 < 2147483648 by omega)]
    repeat' split
    all_goals rfl
  · rw [if_neg c, if_neg c, if_neg (by decide), if_neg (by decide), if_neg (by decide), if_neg (by decide), if_neg (by decide)]; rfl
/-- a command that was read lies in the job -/
def CmAt (M : mM) (cm : Cmd) : Prop := JobX M 89 cm.1 cm.2.1 (nI cm.2.2.1) cm.2.2.2.1 cm.2.2.2.2
def CmR (tx : Nat → Nat) (len : Nat) (M : mM) (r : Nat × Option Cmd) (R : Option (Int32 × mM)) : Prop :=
  ∃ M', R = some (if r.2 = none then 0 else 1, M') ∧ TC M' tx len r.1 ∧ Fr onX M M' ∧ ∀ cm, r.2 = some cm → CmAt M' cm
theorem CmR.pre {M M1 : mM} {r : Nat × Option Cmd} {R : Option (Int32 × mM)} (h : CmR tx len M1 r R) (f : Fr onX M M1) : CmR tx len M r R := by
  obtain ⟨M', x1, x2, x3, x4⟩ := h
  exact ⟨M', x1, x2, f.trans x3, x4⟩
theorem x_command (hT : TxAt Z) (hJ : okO Z 89 7 = true) {M : mM} (h : TC M tx len q) (hq : q ≤ 80) : CmR tx len M (cmdN tx len q) (fX0_isCommandRead N Z 114 89 M) := by
  have hb := h.2.2.2.2
  have h80 := h.2.2.2.1
  have ep := x_passed (N := N) (ch := 45) hT h (by omega) (by omega)
  have ep' : fX0_isPassed N Z 114 (45 : Int32) M = some (if isC tx len q 45 then 1 else 0, if isC tx len q 45 then sI M 114 1 (nI (q + 1)) else M) := ep
  unfold fX0_isCommandRead cmdN
  rw [ck_t hT.1, ep', bnd2_some]
  obtain ⟨tk, htk⟩ : ∃ tk, tk = isC tx len q 45 := ⟨_, rfl⟩
  rw [← htk]
  obtain ⟨q1, hq1⟩ : ∃ q1, q1 = (if tk = true then q + 1 else q) := ⟨_, rfl⟩
  rw [← hq1]
  obtain ⟨M1, hM1⟩ : ∃ M1, M1 = (if tk = true then sI M 114 1 (nI (q + 1)) else M) := ⟨_, rfl⟩
  rw [← hM1]
  have T1 : TC M1 tx len q1 := by
    rw [hM1, hq1]
    cases tk with
    | true => rw [if_pos rfl, if_pos rfl]; exact h.go _
    | false => rw [if_neg (by decide), if_neg (by decide)]; exact h
  have F1 : Fr onX M M1 := by
    rw [hM1]
    cases tk with
    | true => rw [if_pos rfl]; exact go_fr
    | false => rw [if_neg (by decide)]; exact Fr.rfl
  have hq1b : q1 ≤ 81 := by rw [hq1]; split <;> omega
  refine CmR.pre ?_ F1
  rw [x_letter hT T1 (by omega), bnd2_some, x_whatOf hb, bnd2_some]
  unfold cmdW
  cases hw : whN tx len q1 with
  | none => exact ⟨M1, by rw [if_pos (show optI none = (-1 : Int32) from rfl), if_pos rfl], T1, Fr.rfl, fun cm e => by cases e⟩
  | some w =>
    have hw5 := whN_some hw
    have wm : ¬ (optI (some w) = (-1 : Int32)) := fun e => m1_ne (x := w) (by omega) e.symm
    rw [if_neg wm, T1.2.1, nI_1]
    have T2 := T1.go (q1 + 1)
    rw [x_digit hT T2 (by omega)]
    cases hd : dgN tx len (q1 + 1) with
    | none => exact ⟨sI M1 114 1 (nI (q1 + 1)), by rw [bnd2_some, if_pos rfl, if_pos rfl], T2, go_fr, fun cm e => by cases e⟩
    | some p =>
      have hp := dgN_some hd
      have pm : ¬ (nI p = (-1 : Int32)) := fun e => m1_ne (x := p) (by omega) e.symm
      show CmR tx len M1 (cmdL tx len w p (q1 + 2) tk) (bnd2 (some (nI p, sI (sI M1 114 1 (nI (q1 + 1))) 114 1 (nI (q1 + 1 + 1)))) _)
      rw [bnd2_some, if_neg pm, ck_t hJ]
      obtain ⟨M3, hM3⟩ : ∃ M3, M3 = sI (sI M1 114 1 (nI (q1 + 1))) 114 1 (nI (q1 + 1 + 1)) := ⟨_, rfl⟩
      rw [← hM3]
      have T3 : TC M3 tx len (q1 + 2) := by rw [hM3]; exact T2.go _
      have F3 : Fr onX M1 M3 := by rw [hM3]; exact go_fr.trans go_fr
      refine CmR.pre ?_ F3
      rw [k_fill hJ, bnd2_some]
      obtain ⟨M4, hM4⟩ : ∃ M4, M4 = fillM M3 89 (optI (some w)) (nI p) (0 : Int32) (if tk then 1 else 0) := ⟨_, rfl⟩
      rw [← hM4]
      have F4 : Fr onX M3 M4 := by rw [hM4]; exact fillM_fr.mono (fun x j e => Or.inr e)
      have T4 : TC M4 tx len (q1 + 2) := by
        rw [hM4]; exact T3.fr fillM_fr (by omega) (by omega) (fun j => by omega)
      have J4 : JobX M4 89 w p (nI 0) 1 tk := by rw [hM4]; exact fillM_job (x := nI 0)
      refine CmR.pre ?_ F4
      have iw : ∀ n, n < 100 → ((optI (some w) = nI n) ↔ w = n) := fun n hn => by
        show nI w = nI n ↔ w = n
        rw [i_eq (by omega) (by omega)]
      have iw0 : (optI (some w) = 0) ↔ w = 0 := iw 0 (by omega)
      have iw2 : (optI (some w) = (2 : Int32)) ↔ w = 2 := iw 2 (by omega)
      unfold cmdL
      by_cases w0 : w = 0
      · rw [if_pos (iw0.2 w0), if_pos w0]
        exact ⟨M4, by rw [if_neg (by simp)], T4, Fr.rfl, fun cm e => by cases e; exact J4⟩
      · rw [if_neg (fun e => w0 (iw0.1 e)), if_neg w0]
        have e46 : fX0_isPassed N Z 114 (46 : Int32) M4 = some (if isC tx len (q1 + 2) 46 then 1 else 0, if isC tx len (q1 + 2) 46 then sI M4 114 1 (nI (q1 + 2 + 1)) else M4) := x_passed (ch := 46) hT T4 (by omega) (by omega)
        rw [e46, bnd2_some]
        by_cases c46 : isC tx len (q1 + 2) 46 = true
        · rw [if_pos c46, if_pos c46, if_pos c46, if_neg (by decide)]
          have T5 := T4.go (q1 + 2 + 1)
          have hq2 : q1 + 2 < len := (of_decide_eq_true c46).1
          rw [x_digit hT T5 (by omega)]
          have J5 : JobX (sI M4 114 1 (nI (q1 + 2 + 1))) 89 w p (nI 0) 1 tk := J4.fr (go_fr1 (v := nI (q1 + 2 + 1))) (fun j e => by omega)
          obtain ⟨M5, hM5⟩ : ∃ M5, M5 = sI M4 114 1 (nI (q1 + 2 + 1)) := ⟨_, rfl⟩
          have F5 : Fr onX M4 M5 := by rw [hM5]; exact go_fr
          rw [← hM5] at T5 J5 ⊢
          refine CmR.pre ?_ F5
          cases hd2 : dgN tx len (q1 + 2 + 1) with
          | none =>
            show CmR tx len M5 (q1 + 2 + 1, none) (bnd2 (some (-1, M5)) _)
            rw [bnd2_some]
            exact ⟨sI M5 89 2 (-1), by rw [if_pos (sI_same _ _ _ _), if_pos rfl], T5.fr (Fr.put (P := fun x j => x = 89) rfl) (by omega) (by omega) (fun j => by omega), Fr.put (Or.inr rfl), fun cm e => by cases e⟩
          | some l =>
            have hl := dgN_some hd2
            have lm : ¬ (nI l = (-1 : Int32)) := fun e => m1_ne (x := l) (by omega) e.symm
            have om : ¬ (nI 1 = (-1 : Int32)) := by decide
            show CmR tx len M5 (cmdT tx len w p l (q1 + 2 + 2) tk) (bnd2 (some (nI l, sI M5 114 1 (nI (q1 + 2 + 1 + 1)))) _)
            rw [bnd2_some, if_neg (by rw [sI_same]; exact lm)]
            have T6 : TC (sI (sI M5 114 1 (nI (q1 + 2 + 1 + 1))) 89 2 (nI l)) tx len (q1 + 2 + 2) := (T5.go (q1 + 2 + 1 + 1)).fr (Fr.put (P := fun x j => x = 89) rfl) (by omega) (by omega) (fun j => by omega)
            have J6 : JobX (sI (sI M5 114 1 (nI (q1 + 2 + 1 + 1))) 89 2 (nI l)) 89 w p (nI l) 1 tk := (J5.fr (go_fr1 (v := nI (q1 + 2 + 1 + 1))) (fun j e => by omega)).lev (nI l)
            obtain ⟨M6, hM6⟩ : ∃ M6, M6 = sI (sI M5 114 1 (nI (q1 + 2 + 1 + 1))) 89 2 (nI l) := ⟨_, rfl⟩
            have F6 : Fr onX M5 M6 := by rw [hM6]; exact go_fr.trans (Fr.put (Or.inr rfl))
            rw [← hM6] at T6 J6 ⊢
            refine CmR.pre ?_ F6
            have done : ∃ M', (if M6.1 89 3 = (-1 : Int32) then some ((0 : Int32), M6) else some ((1 : Int32), M6)) = some ((1 : Int32), M') ∧ TC M' tx len (q1 + 2 + 2) ∧ Fr onX M6 M' ∧ CmAt M' (w, p, l, 1, tk) := ⟨M6, by rw [J6.2.2.2.1, if_neg om], T6, Fr.rfl, J6⟩
            unfold cmdT
            by_cases w2 : w = 2
            · have e42 : fX0_isPassed N Z 114 (42 : Int32) M6 = some (if isC tx len (q1 + 2 + 2) 42 then 1 else 0, if isC tx len (q1 + 2 + 2) 42 then sI M6 114 1 (nI (q1 + 2 + 2 + 1)) else M6) := x_passed (ch := 42) hT T6 (by omega) (by omega)
              rw [if_pos (iw2.2 w2), e42, bnd2_some]
              by_cases c42 : isC tx len (q1 + 2 + 2) 42 = true
              · have hq4 : q1 + 2 + 2 < len := (of_decide_eq_true c42).1
                have T7 := T6.go (q1 + 2 + 2 + 1)
                have J7 : JobX (sI M6 114 1 (nI (q1 + 2 + 2 + 1))) 89 w p (nI l) 1 tk := J6.fr (go_fr1 (v := nI (q1 + 2 + 2 + 1))) (fun j e => by omega)
                rw [if_pos c42, if_pos c42, if_neg (show ¬ ((1 : Int32) = 0) by decide), if_pos (show w = 2 ∧ isC tx len (q1 + 2 + 2) 42 = true from ⟨w2, c42⟩), x_digit hT T7 (by omega)]
                obtain ⟨M7, hM7⟩ : ∃ M7, M7 = sI M6 114 1 (nI (q1 + 2 + 2 + 1)) := ⟨_, rfl⟩
                have F7 : Fr onX M6 M7 := by rw [hM7]; exact go_fr
                rw [← hM7] at T7 J7 ⊢
                refine CmR.pre ?_ F7
                cases hd3 : dgN tx len (q1 + 2 + 2 + 1) with
                | none =>
                  show CmR tx len M7 (q1 + 2 + 2 + 1, none) (bnd2 (some (-1, M7)) _)
                  rw [bnd2_some]
                  exact ⟨sI M7 89 3 (-1), by rw [if_pos (sI_same _ _ _ _), if_pos rfl], T7.fr (Fr.put (P := fun x j => x = 89) rfl) (by omega) (by omega) (fun j => by omega), Fr.put (Or.inr rfl), fun cm e => by cases e⟩
                | some cl =>
                  have hcl := dgN_some hd3
                  have cm1 : ¬ (nI cl = (-1 : Int32)) := fun e => m1_ne (x := cl) (by omega) e.symm
                  show CmR tx len M7 (q1 + 2 + 2 + 2, some (w, p, l, cl, tk)) (bnd2 (some (nI cl, sI M7 114 1 (nI (q1 + 2 + 2 + 1 + 1)))) _)
                  rw [bnd2_some, if_neg (by rw [sI_same]; exact cm1)]
                  refine ⟨sI (sI M7 114 1 (nI (q1 + 2 + 2 + 1 + 1))) 89 3 (nI cl), by rw [if_neg (by simp)], (T7.go (q1 + 2 + 2 + 1 + 1)).fr (Fr.put (P := fun x j => x = 89) rfl) (by omega) (by omega) (fun j => by omega), go_fr.trans (Fr.put (Or.inr rfl)), fun cm e => ?_⟩
                  cases e
                  exact (J7.fr (go_fr1 (v := nI (q1 + 2 + 2 + 1 + 1))) (fun j e => by omega)).kls cl
              · rw [if_neg c42, if_neg c42, if_pos rfl, if_neg (show ¬ (w = 2 ∧ isC tx len (q1 + 2 + 2) 42 = true) from fun e => c42 e.2)]
                obtain ⟨M', x1, x2, x3, x4⟩ := done
                exact ⟨M', by rw [x1, if_neg (by simp)], x2, x3, fun cm e => by cases e; exact x4⟩
            · rw [if_neg (fun e => w2 (iw2.1 e)), if_neg (show ¬ (w = 2 ∧ isC tx len (q1 + 2 + 2) 42 = true) from fun e => w2 e.1)]
              obtain ⟨M', x1, x2, x3, x4⟩ := done
              exact ⟨M', by rw [x1, if_neg (by simp)], x2, x3, fun cm e => by cases e; exact x4⟩
        · rw [if_neg c46, if_neg c46, if_neg c46, if_pos rfl]
          exact ⟨M4, by rw [if_pos rfl], T4, Fr.rfl, fun cm e => by cases e⟩
theorem x_err7 (hT : TxAt Z) (hJ : okO Z 89 7 = true) : ∀ (j k q fu : Nat) (M : mM), k + j = 27 → 3 * k ≤ q → q ≤ len → j < fu → TC M tx len q →
    ∃ M', fX0_errorPosition_7 N Z fu 114 89 (nI k) M = some ((match txtN tx len j q with
      | .inl e => nI e
      | .inr _ => -1), M') ∧ (∃ q', TC M' tx len q') ∧ Fr onX M M' := by
  intro j
  induction j with
  | zero =>
    intro k q fu M h1 h2 h3 h4 h
    have := h.2.2.2.1
    omega
  | succ j ih =>
    intro k q fu M h1 h2 h3 h4 h
    obtain ⟨fu, rfl⟩ : ∃ q, fu = q + 1 := ⟨fu - 1, by omega⟩
    have h80 := h.2.2.2.1
    obtain ⟨M1, e1, T1, F1, -⟩ := x_command (N := N) hT hJ h (by omega)
    have hpos := cmdN_pos (tx := tx) (len := len) (q := q)
    rw [fX0_errorPosition_7, if_neg (by rw [i_80, i_lt (by omega) (by omega)]; omega), ck_t hT.1, e1, bnd2_some]
    unfold txtN
    obtain ⟨r, hr⟩ : ∃ r, r = cmdN tx len q := ⟨_, rfl⟩
    rw [← hr] at e1 T1 hpos ⊢
    obtain ⟨q', o⟩ := r
    cases o with
    | none =>
      rw [if_pos rfl, if_pos rfl]
      exact ⟨M1, by rw [T1.2.1], ⟨q', T1⟩, F1⟩
    | some cm =>
      have hp2 := hpos.2.1 (by simp)
      have hp3 : q + 2 ≤ q' ∧ q' ≤ len := hp2
      rw [if_neg (show ¬ (some cm = none) by simp), if_neg (by decide), T1.2.1, T1.1]
      by_cases c : q' = len
      · rw [if_pos (by rw [c])]
        refine ⟨M1, ?_, ⟨q', T1⟩, F1⟩
        show _ = some ((match (if q' = len then (.inr [cm] : Nat ⊕ List Cmd) else _) with
          | .inl e => nI e
          | .inr _ => -1), M1)
        rw [if_pos c]
      · rw [if_neg (by rw [i_eq (by omega) (by omega)]; exact c)]
        have e59 : fX0_isPassed N Z 114 (59 : Int32) M1 = some (if isC tx len q' 59 then 1 else 0, if isC tx len q' 59 then sI M1 114 1 (nI (q' + 1)) else M1) := x_passed (ch := 59) hT T1 (by show q' < 100; omega) (by omega)
        rw [e59, bnd2_some]
        by_cases c59 : isC tx len q' 59 = true
        · rw [if_pos c59, if_pos c59, if_neg (by decide), nI_1]
          obtain ⟨M', x1, x2, x3⟩ := ih (k + 1) (q' + 1) fu (sI M1 114 1 (nI (q' + 1))) (by omega) (by omega) (by have := (of_decide_eq_true c59).1; omega) (by omega) (T1.go (q' + 1))
          refine ⟨M', ?_, x2, (F1.trans go_fr).trans x3⟩
          rw [x1]
          show _ = some ((match (if q' = len then (.inr [cm] : Nat ⊕ List Cmd) else if isC tx len q' 59 = true then (match txtN tx len j (q' + 1) with
            | .inl e => .inl e
            | .inr L => .inr (cm :: L)) else .inl q') with
            | .inl e => nI e
            | .inr _ => -1), M')
          rw [if_neg c, if_pos c59]
          cases txtN tx len j (q' + 1) <;> rfl
        · rw [if_neg c59, if_neg c59, if_pos rfl]
          refine ⟨M1, ?_, ⟨q', T1⟩, F1⟩
          rw [T1.2.1]
          show _ = some ((match (if q' = len then (.inr [cm] : Nat ⊕ List Cmd) else if isC tx len q' 59 = true then (match txtN tx len j (q' + 1) with
            | .inl e => .inl e
            | .inr L => .inr (cm :: L)) else .inl q') with
            | .inl e => nI e
            | .inr _ => -1), M1)
          rw [if_neg c, if_neg c59]
theorem x_error (hT : TxAt Z) (hJ : okO Z 89 7 = true) (hN : 5000 ≤ N) {M : mM} (h : TC M tx len q) : ∃ M', fX0_errorPosition N Z 114 89 M = some ((match txtN tx len 27 0 with
      | .inl e => nI e
      | .inr _ => -1), M') ∧ (∃ q', TC M' tx len q') ∧ Fr onX M M' := by
  obtain ⟨M', x1, x2, x3⟩ := x_err7 (N := N) hT hJ 27 0 0 N (sI M 114 1 (nI 0)) (by omega) (by omega) (by omega) (by omega) (h.go 0)
  exact ⟨M', by unfold fX0_errorPosition; rw [ck_t hT.1]; exact x1, x2, go_fr.trans x3⟩
end TX
