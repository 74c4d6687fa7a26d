/-! ===== LAYER 3: the whole state, of both ===== -/
abbrev St : Type := Row × Option Row × (Nat → Row) × Nat × (Nat → Nat × Nat) × Nat × (Nat → Nat) × Nat
def CRep (M : mM) (rp : Nat → Nat × Nat) (r : Nat) : Prop := r ≤ 3 ∧ M.1 90 0 = nI r ∧ ∀ i, i < r → M.1 91 i = nI (rp i).1 ∧ M.1 92 i = nI (rp i).2
def CSv (M : mM) (sv : Option Row) : Prop := M.1 8 3 = (if sv = none then 0 else 1) ∧ ∀ S, sv = some S → RelP M 21 S
/-- the class's state, but the plan -/
def CR (M : mM) (sv : Option Row) (H : Nat → Row) (n : Nat) (rp : Nat → Nat × Nat) (r : Nat) (tx : Nat → Nat) (len : Nat) : Prop := CSv M sv ∧ CHs M H n ∧ CRep M rp r ∧ ∃ q, TC M tx len q
def CI (M : mM) (A : Row) (sv : Option Row) (H : Nat → Row) (n : Nat) (rp : Nat → Nat × Nat) (r : Nat) (tx : Nat → Nat) (len : Nat) : Prop := RelP M 9 A ∧ PDis M A ∧ CR M sv H n rp r tx len
def MRep (M : mM) (rp : Nat → Nat × Nat) (r : Nat) : Prop := r ≤ 3 ∧ M.1 116 8 = nI r ∧ ∀ i, i < r → M.1 122 (2 * i) = nI (rp i).1 ∧ M.1 122 (2 * i + 1) = nI (rp i).2
def MSv (M : mM) (sv : Option Row) : Prop := M.1 116 4 = (if sv = none then 0 else 1) ∧ ∀ S, sv = some S → RowAt M 118 S
def MR (M : mM) (sv : Option Row) (H : Nat → Row) (n : Nat) (rp : Nat → Nat × Nat) (r : Nat) (tx : Nat → Nat) (len : Nat) : Prop := MSv M sv ∧ PM M H n ∧ MRep M rp r ∧ ∃ q, TM M tx len q
def MI (M : mM) (A : Row) (sv : Option Row) (H : Nat → Row) (n : Nat) (rp : Nat → Nat × Nat) (r : Nat) (tx : Nat → Nat) (len : Nat) : Prop := RowAt M 117 A ∧ MR M sv H n rp r tx len
def WFs (c : Nat) (A : Row) (sv : Option Row) (H : Nat → Row) (n : Nat) : Prop := WF A c ∧ (∀ S, sv = some S → WF S c) ∧ ∀ i, i < n → WF (H i) c
def onCr (a : Nat) : Prop := (9 ≤ a ∧ a ≤ 20) ∨ (77 ≤ a ∧ a ≤ 89) ∨ (93 ≤ a ∧ a ≤ 113)
def onMr (a j : Nat) : Prop := a = 117 ∨ a = 119 ∨ a = 120 ∨ (123 ≤ a ∧ a ≤ 125) ∨ a = 127 ∨ a = 128 ∨ (a = 116 ∧ (j = 9 ∨ j = 10 ∨ j = 13 ∨ j = 14 ∨ j = 16 ∨ j = 21))
/-- off the class; off the reference -/
def Cl (M M' : mM) : Prop := ∀ a, (a < 8 ∨ 116 ≤ a) → ∀ j, M'.1 a j = M.1 a j
def Mo (M M' : mM) : Prop := (∀ a, (a < 116 ∨ 128 < a) → ∀ j, M'.1 a j = M.1 a j) ∧ M'.2 = M.2
theorem Cl.rfl {M : mM} : Cl M M := fun _ _ _ => Eq.refl _
theorem Cl.trans {M M' M'' : mM} (h : Cl M M') (h' : Cl M' M'') : Cl M M'' := fun a ha j => (h' a ha j).trans (h a ha j)
theorem Fr.cl {P : Nat → Nat → Prop} {M M' : mM} (s : Fr P M M') (h : ∀ a j, P a j → 8 ≤ a ∧ a ≤ 115) : Cl M M' := fun a ha j => s.1 a j (fun q => by have := h a j q; omega)
theorem Same.cl {S : Nat → Prop} {M M' : mM} (s : Same S M M') (h : ∀ a, S a → 8 ≤ a ∧ a ≤ 115) : Cl M M' := fun a ha j => s.1 a (fun q => by have := h a q; omega) j
theorem Mo.rfl {M : mM} : Mo M M := ⟨fun _ _ _ => Eq.refl _, Eq.refl _⟩
theorem Mo.trans {M M' M'' : mM} (h : Mo M M') (h' : Mo M' M'') : Mo M M'' := ⟨fun a ha j => (h'.1 a ha j).trans (h.1 a ha j), h'.2.trans h.2⟩
theorem Fr.mo {P : Nat → Nat → Prop} {M M' : mM} (s : Fr P M M') (h : ∀ a j, P a j → 116 ≤ a ∧ a ≤ 128) : Mo M M' := ⟨fun a ha j => s.1 a j (fun q => by have := h a j q; omega), s.2⟩
theorem Stat.cl {Z : mZ} {M M' : mM} (h : Stat Z M) (s : Cl M M') : Stat Z M' := by
  have e := fun a j h1 => s a (Or.inl h1) j
  unfold Stat
  rw [e 1 _ (by omega), e 1 _ (by omega), e 1 _ (by omega), e 2 _ (by omega), e 2 _ (by omega), e 2 _ (by omega), e 3 _ (by omega), e 3 _ (by omega), e 3 _ (by omega), e 4 _ (by omega), e 4 _ (by omega), e 4 _ (by omega), e 4 _ (by omega), e 4 _ (by omega)]
  exact h
section SI
variable {A : Row} {sv : Option Row} {H : Nat → Row} {n : Nat} {rp : Nat → Nat × Nat} {r : Nat} {tx : Nat → Nat} {len : Nat}
theorem CSv.fr {P : Nat → Nat → Prop} {M M' : mM} (h : CSv M sv) (s : Fr P M M') (h0 : ¬ P 8 3) (h1 : ∀ a j, 21 ≤ a → a ≤ 26 → ¬ P a j) : CSv M' sv := ⟨by rw [s.1 _ _ h0]; exact h.1, fun S hS => (h.2 S hS).fr s (fun a j b1 b2 => h1 a j b1 b2)⟩
theorem CRep.fr {P : Nat → Nat → Prop} {M M' : mM} (h : CRep M rp r) (s : Fr P M M') (h0 : ∀ a j, 90 ≤ a → a ≤ 92 → ¬ P a j) : CRep M' rp r :=
  ⟨h.1, by rw [s.1 _ _ (h0 90 0 (by omega) (by omega))]; exact h.2.1, fun i hi => ⟨by rw [s.1 _ _ (h0 91 i (by omega) (by omega))]; exact (h.2.2 i hi).1, by rw [s.1 _ _ (h0 92 i (by omega) (by omega))]; exact (h.2.2 i hi).2⟩⟩
theorem CR.fr {P : Nat → Nat → Prop} {M M' : mM} (h : CR M sv H n rp r tx len) (s : Fr P M M') (hd : ∀ a j, P a j → onCr a) : CR M' sv H n rp r tx len := by
  obtain ⟨h1, h2, h3, q, h4⟩ := h
  have nd : ∀ a j, ¬ onCr a → ¬ P a j := fun a j hn hp => hn (hd a j hp)
  refine ⟨h1.fr s (nd 8 3 (by unfold onCr; omega)) (fun a j b1 b2 => nd a j (by unfold onCr; omega)), h2.fr s (nd 27 0 (by unfold onCr; omega)) (nd 27 1 (by unfold onCr; omega)) (fun a j b1 b2 => nd a j (by unfold onCr; omega)), h3.fr s (fun a j b1 b2 => nd a j (by unfold onCr; omega)), q, h4.fr s (nd 114 0 (by unfold onCr; omega)) (nd 114 1 (by unfold onCr; omega)) (fun j => nd 115 j (by unfold onCr; omega))⟩
/-- scratch of the class -/
def onSc (a : Nat) : Prop := (15 ≤ a ∧ a ≤ 20) ∨ (77 ≤ a ∧ a ≤ 89)
theorem CI.sc {P : Nat → Nat → Prop} {M M' : mM} (h : CI M A sv H n rp r tx len) (s : Fr P M M') (hd : ∀ a j, P a j → onSc a) : CI M' A sv H n rp r tx len :=
  ⟨h.1.fr s (fun a j b1 b2 hp => by have := hd a j hp; unfold onSc at this; omega), h.2.1.same (s.same (S := onSc) hd) (by unfold onSc; omega) (by unfold onSc; omega), h.2.2.fr s (fun a j hp => by have := hd a j hp; unfold onSc at this; unfold onCr; omega)⟩
theorem onSc_cl {a : Nat} (h : onSc a) : 8 ≤ a ∧ a ≤ 115 := by unfold onSc at h; omega
theorem MSv.fr {P : Nat → Nat → Prop} {M M' : mM} (h : MSv M sv) (s : Fr P M M') (h0 : ¬ P 116 4) (h1 : ∀ j, ¬ P 118 j) : MSv M' sv := ⟨by rw [s.1 _ _ h0]; exact h.1, fun S hS => (h.2 S hS).fr s h1⟩
theorem MRep.fr {P : Nat → Nat → Prop} {M M' : mM} (h : MRep M rp r) (s : Fr P M M') (h0 : ¬ P 116 8) (h1 : ∀ j, ¬ P 122 j) : MRep M' rp r :=
  ⟨h.1, by rw [s.1 _ _ h0]; exact h.2.1, fun i hi => ⟨by rw [s.1 _ _ (h1 _)]; exact (h.2.2 i hi).1, by rw [s.1 _ _ (h1 _)]; exact (h.2.2 i hi).2⟩⟩
theorem MR.fr {P : Nat → Nat → Prop} {M M' : mM} (h : MR M sv H n rp r tx len) (s : Fr P M M') (hd : ∀ a j, P a j → onMr a j) : MR M' sv H n rp r tx len := by
  obtain ⟨h1, h2, h3, q, h4⟩ := h
  have nd : ∀ a j, ¬ onMr a j → ¬ P a j := fun a j hn hp => hn (hd a j hp)
  refine ⟨h1.fr s (nd _ _ (by unfold onMr; omega)) (fun j => nd _ _ (by unfold onMr; omega)), h2.fr s (nd _ _ (by unfold onMr; omega)) (fun j => nd _ _ (by unfold onMr; omega)), h3.fr s (nd _ _ (by unfold onMr; omega)) (fun j => nd _ _ (by unfold onMr; omega)), q, h4.fr s (nd _ _ (by unfold onMr; omega)) (nd _ _ (by unfold onMr; omega)) (fun j => nd _ _ (by unfold onMr; omega))⟩
theorem MI.cl {M M' : mM} (h : MI M A sv H n rp r tx len) (s : Cl M M') : MI M' A sv H n rp r tx len := by
  have f : Fr (fun a _ => 8 ≤ a ∧ a ≤ 115) M (M'.1, M.2) := ⟨fun a j hn => s a (by omega) j, Eq.refl _⟩
  have h1 : MI (M'.1, M.2) A sv H n rp r tx len := by
    obtain ⟨g0, g1, g2, g3, q, g4⟩ := h
    exact ⟨g0.fr f (fun j => by omega), g1.fr f (by omega) (fun j => by omega), g2.fr f (by omega) (fun j => by omega), g3.fr f (by omega) (fun j => by omega), q, g4.fr f (by omega) (by omega) (fun j => by omega)⟩
  exact h1
theorem CI.mo {M M' : mM} (h : CI M A sv H n rp r tx len) (s : Mo M M') : CI M' A sv H n rp r tx len := by
  have f : Fr (fun a _ => 116 ≤ a ∧ a ≤ 128) M M' := ⟨fun a j hn => s.1 a (by omega) j, s.2⟩
  obtain ⟨g0, g1, g2, g3, g4, q, g5⟩ := h
  refine ⟨g0.fr f (fun a j b1 b2 => by omega), g1.same (f.same (S := fun a => 116 ≤ a ∧ a ≤ 128) (fun a j h => h)) (by omega) (by omega), g2.fr f (by omega) (fun a j b1 b2 => by omega), g3.fr f (by omega) (by omega) (fun a j b1 b2 => by omega), g4.fr f (fun a j b1 b2 => by omega), q, g5.fr f (by omega) (by omega) (fun j => by omega)⟩
end SI
theorem doA_irr {A : Row} {what p l : Nat} {tk : Bool} (h : what = 2 → tk = true) (c1 c2 : Nat) : doA A what p l c1 tk = doA A what p l c2 tk := by
  unfold doA
  by_cases q2 : what = 2
  · have ht := h q2
    subst ht
    rfl
  · rw [if_neg q2, if_neg q2]
theorem jst_irr {A : Row} {what p l : Nat} {tk : Bool} (h : what = 2 → tk = true) (c1 c2 : Nat) : jst A what p l c1 tk = jst A what p l c2 tk := by
  unfold jst; rw [doA_irr h c1 c2]
def rpQ (what p : Nat) (q : Nat × Nat) : Nat → Nat × Nat := fun i => if i = 0 then (what, p) else q
section JO
variable {N : Nat} {Z : mZ} {A : Row} {c : Nat} {sv : Option Row} {H : Nat → Row} {n : Nat} {rp : Nat → Nat × Nat} {r : Nat} {tx : Nat → Nat} {len : Nat}
def RepAt (Z : mZ) : Prop := okO Z 90 5 = true ∧ Z.2.2.2 90 1 = some 91 ∧ Z.2.2.2 90 2 = some 92 ∧ ArrAt' Z 91 3 ∧ ArrAt' Z 92 3
theorem k_add (hR : RepAt Z) {M : mM} {i : Nat} (h : M.1 90 0 = nI i) (hi : i < 3) (a b : Int32) : fX5_add N Z 90 a b M = some ((), sI (sI (sI M 91 i a) 92 i b) 90 0 (nI (i + 1))) := by
  obtain ⟨o1, r1, r2, ⟨a4, a5, a6⟩, ⟨b4, b5, b6⟩⟩ := hR
  unfold fX5_add
  rw [ck_t o1, r1, bnd1_some, h, k_write a4 (by omega) (by omega), bnd2_some, r2, bnd1_some, sI_ne _ _ (show ¬ ((90 : Nat) = 91 ∧ (0 : Nat) = i) by omega), h, k_write b4 (by omega) (by omega), bnd2_some, sI_ne _ _ (show ¬ ((90 : Nat) = 92 ∧ (0 : Nat) = i) by omega), sI_ne _ _ (show ¬ ((90 : Nat) = 91 ∧ (0 : Nat) = i) by omega), h, nI_1]
def inRp (a : Nat) : Prop := 90 ≤ a ∧ a ≤ 92
theorem k_addRefusal (hC : ClsAt Z) {M : mM} {i what p a b : Nat} (h : M.1 90 0 = nI i) (hi : i + 1 < 3) (h0 : M.1 89 0 = nI what) (h1 : M.1 89 1 = nI p) (h2 : M.1 82 0 = nI a) (h3 : M.1 82 1 = nI b) :
    ∃ M', fX8_addRefusal N Z 8 M = some ((), M') ∧ M'.1 90 0 = nI (i + 2) ∧ M'.1 91 i = nI what ∧ M'.1 92 i = nI p ∧ M'.1 91 (i + 1) = nI a ∧ M'.1 92 (i + 1) = nI b ∧ (∀ j, j < i → M'.1 91 j = M.1 91 j ∧ M'.1 92 j = M.1 92 j) ∧ Same inRp M M' := by
  obtain ⟨o8, ⟨-, -, -, -, -, r6, r7, r8, -⟩, -, -, -, j82, o89, hR, -⟩ := hC
  have hR' : RepAt Z := hR
  have e1 := k_add (N := N) hR' h (by omega) (nI what) (nI p)
  obtain ⟨M1, hM1⟩ : ∃ M1, M1 = sI (sI (sI M 91 i (nI what)) 92 i (nI p)) 90 0 (nI (i + 1)) := ⟨_, rfl⟩
  rw [← hM1] at e1
  have n1 : M1.1 90 0 = nI (i + 1) := by rw [hM1, sI_same]
  have e2 := k_add (N := N) hR' n1 (by omega) (nI a) (nI b)
  have g2 : M1.1 82 0 = nI a := by rw [hM1, sI_ne _ _ (by omega), sI_ne _ _ (by omega), sI_ne _ _ (by omega)]; exact h2
  have g3 : M1.1 82 1 = nI b := by rw [hM1, sI_ne _ _ (by omega), sI_ne _ _ (by omega), sI_ne _ _ (by omega)]; exact h3
  have s1 : Same inRp M M1 := by rw [hM1]; exact ((Same.put (S := inRp) ⟨by omega, by omega⟩).trans (Same.put ⟨by omega, by omega⟩)).trans (Same.put ⟨by omega, by omega⟩)
  refine ⟨sI (sI (sI M1 91 (i + 1) (nI a)) 92 (i + 1) (nI b)) 90 0 (nI (i + 1 + 1)), ?_, sI_same _ _ _ _, ?_, ?_, ?_, ?_, fun j hj => ⟨?_, ?_⟩, s1.trans (((Same.put (S := inRp) ⟨by omega, by omega⟩).trans (Same.put ⟨by omega, by omega⟩)).trans (Same.put ⟨by omega, by omega⟩))⟩
  · unfold fX8_addRefusal
    rw [ck_t o8, r8, bnd1_some, r7, bnd1_some, ck_t o89, ck_t hR.1, h0, h1, e1, bnd2_some, r6, bnd1_some, ck_t j82.1, g2, g3, e2, bnd2_some]
  · rw [sI_ne _ _ (by omega), sI_ne _ _ (by omega), sI_ne _ _ (by omega), hM1, sI_ne _ _ (by omega), sI_ne _ _ (by omega), sI_same]
  · rw [sI_ne _ _ (by omega), sI_ne _ _ (by omega), sI_ne _ _ (by omega), hM1, sI_ne _ _ (by omega), sI_same]
  · rw [sI_ne _ _ (by omega), sI_ne _ _ (by omega), sI_same]
  · rw [sI_ne _ _ (by omega), sI_same]
  · rw [sI_ne _ _ (by omega), sI_ne _ _ (by omega), sI_ne _ _ (by omega), hM1, sI_ne _ _ (by omega), sI_ne _ _ (by omega), sI_ne _ _ (by omega)]
  · rw [sI_ne _ _ (by omega), sI_ne _ _ (by omega), sI_ne _ _ (by omega), hM1, sI_ne _ _ (by omega), sI_ne _ _ (by omega), sI_ne _ _ (by omega)]
theorem onE_sc {a j : Nat} (h : onE 82 89 a j) : onSc a := by
  unfold onSc
  rcases h with h | h | h
  · omega
  · have := h.1; have := h.2; omega
  · omega
theorem c_job (hN : 5000 ≤ N) (hC : ClsAt Z) (w : WF A c) (hc : c + 1 ≤ 1000000) {M : mM} (h : CI M A sv H n rp r tx len) {what p cls : Nat} {x : Int32} {tk : Bool} (hj : JobX M 89 what p x cls tk) (hk : what = 0 ∨ (2 ≤ what ∧ what ≤ 5)) (hp : p < A 0) (hcl : what = 2 → tk = false → 1 ≤ cls ∧ cls ≤ 4) :
    (jst A what p (lvA A what p x.toNatClampNeg tk) cls tk = none → OkA A what p (lvA A what p x.toNatClampNeg tk) cls tk ∧ ∃ M', fX8_isJobCarriedOut N Z 8 M = some (1, M') ∧ Cl M M' ∧ CI M' (doA A what p (lvA A what p x.toNatClampNeg tk) cls tk) sv (kpH H n A) (kpN n) rp r tx len) ∧
    (∀ q, jst A what p (lvA A what p x.toNatClampNeg tk) cls tk = some q → ∃ M', fX8_isJobCarriedOut N Z 8 M = some (0, M') ∧ Cl M M' ∧ CI M' A sv H n (rpQ what p q) 2 tx len) := by
  have C := hC
  obtain ⟨o8, ⟨r0, r1, r2, r4, r5, r6, r7, r8, r9, r10⟩, ⟨p9, p15, p21⟩, hH, y77, j82, o89, hRp, hD, hT⟩ := hC
  obtain ⟨l, hl⟩ : ∃ l, l = lvA A what p x.toNatClampNeg tk := ⟨_, rfl⟩
  rw [← hl]
  obtain ⟨M1, e1, s1, Y1, -⟩ := w_explore (N := N) y77 p9 (by omega) w hN h.1
  have f1 : ∀ a, inW 77 a → onSc a := fun a q => by have := q.1; have := q.2; unfold onSc; omega
  have h1 := h.sc s1.fr (fun a j q => f1 a q)
  have J1 : JobX M1 89 what p x cls tk := hj.fr s1.fr (fun j q => by have := q.1; have := q.2; omega)
  obtain ⟨M2, e2, f2, q2, ok2⟩ := j_examine (N := N) hN j82 p9 y77 o89 (by omega) (by omega) (by omega) (by omega) (by omega) h1.1 Y1 w hc J1 hk hp hcl
  rw [← hl] at q2 ok2
  have h2 := h1.sc f2 (fun a j q => onE_sc q)
  have c12 : Cl M M2 := (s1.cl (fun a q => onSc_cl (f1 a q))).trans (f2.cl (fun a j q => onSc_cl (onE_sc q)))
  have j0 : M2.1 89 0 = nI what := by rw [f2.1 89 0 (fun q => by rcases q with q | q | q; omega; have := q.1; have := q.2; omega; omega)]; exact J1.1
  have j1 : M2.1 89 1 = nI p := by rw [f2.1 89 1 (fun q => by rcases q with q | q | q; omega; have := q.1; have := q.2; omega; omega)]; exact J1.2.1
  have head : ∀ res, (if (M2.1 82 0) = 0 then bnd2 (fX8_keepChange N Z 8 M2) (fun _ M11 => ck (okO Z 9 4) (bnd2 (fX4_carryOut N Z 9 89 M11) (fun _ M13 => some ((1 : Int32), M13)))) else bnd1 (Z.2.2.2 8 8) (fun c14 => ck (okO Z c14 5) (bnd2 (fX5_clear N Z c14 M2) (fun _ M16 => bnd2 (fX8_addRefusal N Z 8 M16) (fun _ M17 => some ((0 : Int32), M17)))))) = some res → fX8_isJobCarriedOut N Z 8 M = some res := fun res hh => by
    unfold fX8_isJobCarriedOut
    rw [ck_t o8, r5, bnd1_some, r0, bnd1_some, ck_t y77.1, e1, bnd2_some, r6, bnd1_some, r7, bnd1_some, ck_t j82.1, e2, bnd2_some]
    exact hh
  constructor
  · intro hq
    obtain ⟨J2, ok⟩ := ok2 hq
    refine ⟨ok, ?_⟩
    obtain ⟨M3, e3, H3, d3, f3⟩ := k_keepChange (N := N) hN C h2.1 h2.2.2.2.1
    have k9 : ∀ a j, 9 ≤ a → a ≤ 26 → ¬ onK a j := fun a j b1 b2 q => by unfold onK at q; omega
    have R3 : RelP M3 9 A := h2.1.fr f3 (fun a j b1 b2 => k9 a j (by omega) (by omega))
    have J3 : JobR M3 89 what p l cls tk := JobX.fr (x := nI l) J2 f3 (fun j q => by unfold onK at q; omega)
    obtain ⟨M4, e4, R4, s4⟩ := k_carryOut (N := N) p9 o89 (by omega) R3 w J3 ok
    have i9 : ∀ a, inP 9 a → 9 ≤ a ∧ a ≤ 14 := fun a q => ⟨q.1, q.2⟩
    refine ⟨M4, head _ ?_, (c12.trans (f3.cl (fun a j q => by unfold onK at q; omega))).trans (s4.cl (fun a q => by have := i9 a q; omega)), R4, Or.inl ?_, ?_⟩
    · rw [if_pos (q2.1.trans (rN_zero.2 hq)), e3, bnd2_some, ck_t p9.1, e4, bnd2_some]
    · rw [s4.1 93 (fun q => by have := q.2; omega)]; exact d3
    · obtain ⟨g1, g2, g3, t, g4⟩ := h2.2.2
      have A3 := g1.fr f3 (fun q => by unfold onK at q; omega) (fun a j b1 b2 => k9 a j (by omega) (by omega))
      have B3 := g3.fr f3 (fun a j b1 b2 q => by unfold onK at q; omega)
      have D3 := g4.fr f3 (fun q => by unfold onK at q; omega) (fun q => by unfold onK at q; omega) (fun j q => by unfold onK at q; omega)
      exact CR.fr (P := fun a _ => inP 9 a) ⟨A3, H3, B3, t, D3⟩ s4.fr (fun a j q => by have := i9 a q; unfold onCr; omega)
  · intro q hq
    have cl : fX5_clear N Z 90 M2 = some ((), sI M2 90 0 (nI 0)) := by unfold fX5_clear; rw [ck_t hRp.1]; rfl
    have q0 : M2.1 82 0 = nI q.1 := by have := q2.1; rw [hq] at this; exact this
    have q1 : M2.1 82 1 = nI q.2 := by have := q2.2; rw [hq] at this; exact this
    obtain ⟨M3, e3, a0, a1, a2, a3, a4, -, s3⟩ := k_addRefusal (N := N) (M := sI M2 90 0 (nI 0)) (i := 0) (what := what) (p := p) (a := q.1) (b := q.2) C (sI_same _ _ _ _) (by omega) (by rw [sI_ne _ _ (by omega)]; exact j0) (by rw [sI_ne _ _ (by omega)]; exact j1) (by rw [sI_ne _ _ (by omega)]; exact q0) (by rw [sI_ne _ _ (by omega)]; exact q1)
    have s23 : Same inRp M2 M3 := (Same.put (S := inRp) ⟨by omega, by omega⟩).trans s3
    have ir : ∀ a, inRp a → 90 ≤ a ∧ a ≤ 92 := fun a q => q
    refine ⟨M3, head _ ?_, c12.trans (s23.cl (fun a q => by have := ir a q; omega)), h2.1.same s23 (fun a b1 b2 b3 => by have := ir a b3; omega), h2.2.1.same s23 (fun q => by have := ir _ q; omega) (fun q => by have := ir _ q; omega), ?_⟩
    · rw [if_neg (fun e => by have := rN_zero.1 (q2.1 ▸ e); rw [hq] at this; cases this), r8, bnd1_some, ck_t hRp.1, cl, bnd2_some, e3, bnd2_some]
    · obtain ⟨g1, g2, g3, t, g4⟩ := h2.2.2
      refine ⟨g1.fr s23.fr (fun q => by have := ir _ q; omega) (fun a j b1 b2 q => by have := ir _ q; omega), g2.fr s23.fr (fun q => by have := ir _ q; omega) (fun q => by have := ir _ q; omega) (fun a j b1 b2 q => by have := ir _ q; omega), ⟨by omega, a0, fun i hi => ?_⟩, t, g4.fr s23.fr (fun q => by have := ir _ q; omega) (fun q => by have := ir _ q; omega) (fun j q => by have := ir _ q; omega)⟩
      rcases (show i = 0 ∨ i = 1 by omega) with rfl | rfl
      · exact ⟨a1, a2⟩
      · exact ⟨a3, a4⟩
/-! the reference's works -/
theorem m_reports (hM : ModAt Z) {M : mM} {i : Nat} (hi : i < 3) (a b : Int32) : fX9_reports N Z 116 (nI i) a b M = some ((), sI (sI (sI M 122 (2 * i) a) 122 (2 * i + 1) b) 116 8 (nI (i + 1))) := by
  obtain ⟨o1, ⟨-, -, -, -, -, r7, -⟩, -, -, -, -, -, ⟨a4, a5, a6⟩, -⟩ := hM
  have q : (2 : Int32) * nI i = nI (2 * i) := by rw [i_2, pk_mul]
  unfold fX9_reports
  rw [ck_t o1, r7, bnd1_some, ck_t a4, q, a6, ck_t (by rw [i_inB (by omega)]; exact decide_eq_true (by omega)), nI_1, nI_1, ck_t (by rw [i_inB (by omega)]; exact decide_eq_true (by omega)), i_cl (by omega), i_cl (by omega)]
theorem onA_mr {a j : Nat} (h : onA a j) : onMr a j := by unfold onA at h; unfold onMr; omega
theorem m_works (hN : 5000 ≤ N) (hM : ModAt Z) (w : WF A c) (hc : c + 1 ≤ 1000000) {M : mM} (h : MI M A sv H n rp r tx len) {what p cls : Nat} {x : Int32} {tk : Bool} (hk : what = 0 ∨ (2 ≤ what ∧ what ≤ 5)) (hp : p < A 0) (hcl : what = 2 → tk = false → 1 ≤ cls ∧ cls ≤ 4) :
    (jst A what p (lvA A what p x.toNatClampNeg tk) cls tk = none → ∃ M', fX9_works N Z 116 (nI what) (nI p) x (if tk then 1 else 0) (nI cls) M = some (1, M') ∧ Mo M M' ∧ M'.1 116 9 = nI 0 ∧ MI M' (doA A what p (lvA A what p x.toNatClampNeg tk) cls tk) sv (kpH H n A) (kpN n) rp r tx len) ∧
    (∀ q, jst A what p (lvA A what p x.toNatClampNeg tk) cls tk = some q → ∃ M', fX9_works N Z 116 (nI what) (nI p) x (if tk then 1 else 0) (nI cls) M = some (0, M') ∧ Mo M M' ∧ M'.1 116 9 = nI 0 ∧ MI M' A sv H n (rpQ what p q) 2 tx len) := by
  have gm := hM
  obtain ⟨M1, e1, f1, R1, d1⟩ := m_against (N := N) (x := x) hN hM w hc h.1 hk hp hcl
  obtain ⟨l, hl⟩ : ∃ l, l = lvA A what p x.toNatClampNeg tk := ⟨_, rfl⟩
  rw [← hl] at e1 d1 ⊢
  have R1' := h.2.fr f1 (fun a j q => onA_mr q)
  obtain ⟨M2, hM2⟩ : ∃ M2, M2 = sI M1 116 9 (nI 0) := ⟨_, rfl⟩
  have f2 : Fr (fun a j => a = 116 ∧ j = 9) M1 M2 := by rw [hM2]; exact Fr.put (P := fun a j => a = 116 ∧ j = 9) ⟨rfl, rfl⟩
  have R2 : RowAt M2 117 A := R1.fr f2 (fun j => by omega)
  have R2' := R1'.fr f2 (fun a j q => by unfold onMr; omega)
  have z2 : M2.1 116 9 = nI 0 := by rw [hM2, sI_same]
  have mo2 : Mo M M2 := (f1.mo (fun a j q => by unfold onA at q; omega)).trans (f2.mo (fun a j q => by omega))
  obtain ⟨o1, ⟨r0, -⟩, ⟨g4, g5, g6⟩, -⟩ := hM
  have head : ∀ res, (if nI (rN (jst A what p l cls tk)) ≤ 0 then bnd1 (Z.2.2.2 116 0) (fun c4 => bnd2 (fX9_changes N Z 116 c4 M2) (fun _ M5 => bnd2 (fX9_does N Z 116 (nI what) (nI p) x (if tk then 1 else 0) (nI cls) M5) (fun _ M6 => some ((1 : Int32), M6)))) else bnd2 (fX9_reports N Z 116 (0 : Int32) (nI what) (nI p) M2) (fun _ M7 => bnd2 (fX9_reports N Z 116 (1 : Int32) (nI (rN (jst A what p l cls tk))) (M7.1 116 14) M7) (fun _ M8 => some ((0 : Int32), M8)))) = some res → fX9_works N Z 116 (nI what) (nI p) x (if tk then 1 else 0) (nI cls) M = some res := fun res hh => by
    unfold fX9_works
    rw [ck_t o1, e1, bnd2_some, show sI M1 116 9 (0 : Int32) = M2 from hM2.symm]
    exact hh
  constructor
  · intro hq
    have ok := jst_none_ok w hp hk hl hcl hq
    obtain ⟨M3, e3, P3, f3⟩ := m_changes (N := N) hN gm g5 g6 (by omega) (by omega) R2 R2'.2.1
    have R3 : RowAt M3 117 A := R2.fr f3 (fun j q => by unfold onP at q; omega)
    have hw : fX9_does N Z 116 (nI what) (nI p) x (if tk then 1 else 0) (nI cls) M3 = fX9_does N Z 116 (nI what) (nI p) (nI l) (if tk then 1 else 0) (nI cls) M3 := by
      by_cases q0 : what = 0
      · subst q0
        unfold fX9_does fX9_does_10
        simp only [show nI 0 = (0 : Int32) from rfl, if_true]
      · have hx : l = x.toNatClampNeg := by rw [hl]; unfold lvA; rw [if_neg q0]
        have h1 := ok.2.2.1
        rcases i32_cases x with hn | ⟨l', hl', rfl⟩
        · rw [clampNeg hn] at hx; omega
        · rw [i_cl hl'] at hx; rw [hx]
    obtain ⟨M4, e4, R4, s4⟩ := m_does (N := N) hN gm R3 w hc ok
    have s4' : Fr (fun a _ => on117 a) M3 M4 := s4.fr
    refine ⟨M4, head _ ?_, (mo2.trans (f3.mo (fun a j q => by unfold onP at q; omega))).trans (s4'.mo (fun a j q => by unfold on117 at q; omega)), ?_, R4, ?_⟩
    · rw [if_pos (by rw [hq]; decide), r0, bnd1_some, e3, bnd2_some, hw, e4, bnd2_some]
    · rw [s4.1 116 (fun q => by unfold on117 at q; omega), f3.1 116 9 (fun q => by unfold onP at q; omega)]; exact z2
    · obtain ⟨a1, a2, a3, t, a4⟩ := R2'
      exact MR.fr (P := fun a _ => on117 a) ⟨a1.fr f3 (fun q => by unfold onP at q; omega) (fun j q => by unfold onP at q; omega), P3, a3.fr f3 (fun q => by unfold onP at q; omega) (fun j q => by unfold onP at q; omega), t, a4.fr f3 (fun q => by unfold onP at q; omega) (fun q => by unfold onP at q; omega) (fun j q => by unfold onP at q; omega)⟩ s4' (fun a j q => by unfold on117 at q; unfold onMr; omega)
  · intro q hq
    have hr := jst_rn hq
    have d14 : M2.1 116 14 = nI q.2 := by rw [hM2, sI_ne _ _ (by omega)]; exact d1 q hq
    have e3 : fX9_reports N Z 116 (0 : Int32) (nI what) (nI p) M2 = _ := m_reports (i := 0) gm (by omega) (nI what) (nI p)
    obtain ⟨M3, hM3⟩ : ∃ M3, M3 = sI (sI (sI M2 122 (2 * 0) (nI what)) 122 (2 * 0 + 1) (nI p)) 116 8 (nI (0 + 1)) := ⟨_, rfl⟩
    rw [← hM3] at e3
    have e4 : ∀ v, fX9_reports N Z 116 (1 : Int32) (nI q.1) v M3 = _ := fun v => m_reports (i := 1) gm (by omega) (nI q.1) v
    have f3 : Fr (fun a j => a = 122 ∨ (a = 116 ∧ j = 8)) M2 M3 := by rw [hM3]; exact ((Fr.put (P := fun a j => a = 122 ∨ (a = 116 ∧ j = 8)) (Or.inl rfl)).trans (Fr.put (Or.inl rfl))).trans (Fr.put (Or.inr ⟨rfl, rfl⟩))
    obtain ⟨M4, hM4⟩ : ∃ M4, M4 = sI (sI (sI M3 122 (2 * 1) (nI q.1)) 122 (2 * 1 + 1) (nI q.2)) 116 8 (nI (1 + 1)) := ⟨_, rfl⟩
    have f4 : Fr (fun a j => a = 122 ∨ (a = 116 ∧ j = 8)) M3 M4 := by rw [hM4]; exact ((Fr.put (P := fun a j => a = 122 ∨ (a = 116 ∧ j = 8)) (Or.inl rfl)).trans (Fr.put (Or.inl rfl))).trans (Fr.put (Or.inr ⟨rfl, rfl⟩))
    have f34 := f3.trans f4
    have d3 : M3.1 116 14 = nI q.2 := by rw [f3.1 116 14 (by omega)]; exact d14
    refine ⟨M4, head _ ?_, mo2.trans (f34.mo (fun a j q => by omega)), ?_, R2.fr f34 (fun j => by omega), ?_⟩
    · rw [if_neg (by rw [hq]; show ¬ nI q.1 ≤ 0; rw [i_0, i_le (by omega) (by omega)]; omega), e3, bnd2_some, d3, hq]
      show bnd2 (fX9_reports N Z 116 (1 : Int32) (nI q.1) (nI q.2) M3) _ = _
      rw [e4, ← hM4, bnd2_some]
    · rw [f34.1 116 9 (by omega)]; exact z2
    · obtain ⟨a1, a2, a3, t, a4⟩ := R2'
      refine ⟨a1.fr f34 (by omega) (fun j => by omega), a2.fr f34 (by omega) (fun j => by omega), ⟨by omega, by rw [hM4, sI_same], fun i hi => ?_⟩, t, a4.fr f34 (by omega) (by omega) (fun j => by omega)⟩
      rcases (show i = 0 ∨ i = 1 by omega) with rfl | rfl
      · rw [hM4, sI_ne _ _ (by omega), sI_ne _ _ (by omega), sI_ne _ _ (by omega), sI_ne _ _ (by omega), sI_ne _ _ (by omega), sI_ne _ _ (by omega), hM3]
        rw [sI_ne _ _ (by omega), sI_ne _ _ (by omega), sI_same, sI_ne _ _ (by omega), sI_same]
        exact ⟨rfl, rfl⟩
      · rw [hM4, sI_ne _ _ (by omega), sI_ne _ _ (by omega), sI_same, sI_ne _ _ (by omega), sI_same]
        exact ⟨rfl, rfl⟩
end JO
