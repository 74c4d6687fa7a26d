/-! ===== LAYER 1: what the printed walks use ===== -/
def bnd1 {α γ : Type} (x : Option α) (f : α → Option γ) : Option γ := match x with
  | none => none
  | some a => f a
def bnd2 {α β γ : Type} (x : Option (α × β)) (f : α → β → Option γ) : Option γ := match x with
  | none => none
  | some (a, b) => f a b
def bndR {β γ : Type} (x : Option (Option Nat × β)) (f : β → Option γ) (g : Nat → β → Option γ) : Option γ := match x with
  | none => none
  | some (none, b) => f b
  | some (some a, b) => g a b
def bndT {α β γ : Type} (x : Option ((α ⊕ String) × β)) (f : α → β → Option γ) (g : String → β → Option γ) : Option γ := match x with
  | none => none
  | some (.inl a, b) => f a b
  | some (.inr a, b) => g a b
theorem bnd1_spec {α γ : Type} {x : Option α} {f : α → Option γ} {r : γ} (h : bnd1 x f = some r) : ∃ a, x = some a ∧ f a = some r := by
  cases x with
  | none => cases h
  | some a => exact ⟨a, rfl, h⟩
theorem bnd2_spec {α β γ : Type} {x : Option (α × β)} {f : α → β → Option γ} {r : γ} (h : bnd2 x f = some r) : ∃ a b, x = some (a, b) ∧ f a b = some r := by
  cases x with
  | none => cases h
  | some q => exact ⟨q.1, q.2, rfl, h⟩
theorem bndR_spec {β γ : Type} {x : Option (Option Nat × β)} {f : β → Option γ} {g : Nat → β → Option γ} {r : γ} (h : bndR x f g = some r) : (∃ b, x = some (none, b) ∧ f b = some r) ∨ ∃ a b, x = some (some a, b) ∧ g a b = some r := by
  match x, h with
  | none, h => cases h
  | some (none, b), h => exact Or.inl ⟨b, rfl, h⟩
  | some (some a, b), h => exact Or.inr ⟨a, b, rfl, h⟩
theorem bndT_spec {α β γ : Type} {x : Option ((α ⊕ String) × β)} {f : α → β → Option γ} {g : String → β → Option γ} {r : γ} (h : bndT x f g = some r) : (∃ a b, x = some (.inl a, b) ∧ f a b = some r) ∨ ∃ a b, x = some (.inr a, b) ∧ g a b = some r := by
  match x, h with
  | none, h => cases h
  | some (.inl a, b), h => exact Or.inl ⟨a, b, rfl, h⟩
  | some (.inr a, b), h => exact Or.inr ⟨a, b, rfl, h⟩
theorem bnd1_some {α γ : Type} {a : α} {f : α → Option γ} : bnd1 (some a) f = f a := rfl
theorem bnd2_some {α β γ : Type} {a : α} {b : β} {f : α → β → Option γ} : bnd2 (some (a, b)) f = f a b := rfl
theorem bndR_none {β γ : Type} {b : β} {f : β → Option γ} {g : Nat → β → Option γ} : bndR (some (none, b)) f g = f b := rfl
theorem bndR_some {β γ : Type} {a : Nat} {b : β} {f : β → Option γ} {g : Nat → β → Option γ} : bndR (some (some a, b)) f g = g a b := rfl
theorem bndT_inl {α β γ : Type} {a : α} {b : β} {f : α → β → Option γ} {g : String → β → Option γ} : bndT (some (.inl a, b)) f g = f a b := rfl
theorem bndT_inr {α β γ : Type} {a : String} {b : β} {f : α → β → Option γ} {g : String → β → Option γ} : bndT (some (.inr a, b)) f g = g a b := rfl
def nameZ {γ : Type} (Z : mZ) (M : mM) (f : mZ → mM → Option γ) : Option γ := f Z M
theorem nameZ_spec {γ : Type} {Z : mZ} {M : mM} {f : mZ → mM → Option γ} {r : γ} (h : nameZ Z M f = some r) : ∃ Z1 M1, Z1 = Z ∧ M1 = M ∧ f Z1 M1 = some r := ⟨Z, M, rfl, rfl, h⟩
def okM (own : String) (idx : Nat) (y : MethodName) (b : ByteArray) : Bool :=
  decide (Cond.methodLink own idx y ∈ gw) && decide (Cond.static y ∈ gw) && decide (Cond.initialized "java/lang/Math" ∈ gw) && decide (Cond.code y b 2 (some .int) ∈ gw)
def isB (v : Int32) : Bool := decide (v = 0) || decide (v = 1)
theorem isB_spec {v : Int32} (h : isB v = true) : v = 0 ∨ v = 1 := by simpa [isB] using h
theorem isB_put {v : Int32} (h : isB v = true) : narrow .boolean (.int v) = .int v ∧ fits .boolean (.int v) = true := by
  rcases isB_spec h with rfl | rfl <;> exact ⟨rfl, rfl⟩
def nn32 (r : UInt32) : Bool := decide (r &&& 0x7fffffff ≤ 0x7f800000)
def nn64 (r : UInt64) : Bool := decide (r &&& 0x7fffffffffffffff ≤ 0x7ff0000000000000)
theorem nn32_spec {r : UInt32} (h : nn32 r = true) : vf_n32 r := of_decide_eq_true (p := r &&& 0x7fffffff ≤ 0x7f800000) h
theorem nn64_spec {r : UInt64} (h : nn64 r = true) : vf_n64 r := of_decide_eq_true (p := r &&& 0x7fffffffffffffff ≤ 0x7ff0000000000000) h
theorem nI_netoInt {x : Int32} {n : Nat} (hn : n < 2 ^ 31) (h : ¬ x = nI n) : ¬ (n : Int) = x.toInt := fun e => h (Int32.toInt_inj.mp (by rw [nI_toInt hn]; exact e.symm))
theorem sw_out {x : Int32} {n : Nat} (hn : n < 2 ^ 31) (h : ∀ j, j ≤ n → ¬ x = nI j) : x.toInt < 0 ∨ (n : Int) < x.toInt := by
  rcases (show x.toInt < 0 ∨ 0 ≤ x.toInt by omega) with h0 | h0
  · exact Or.inl h0
  rcases (show (n : Int) < x.toInt ∨ x.toInt ≤ (n : Int) by omega) with h1 | h1
  · exact Or.inr h1
  · refine absurd ?_ (h x.toInt.toNat (by omega))
    exact Int32.toInt_inj.mp (by rw [nI_toInt (by omega)]; omega)
theorem lk_out : ∀ (l : List (Int × Int)) (d k : Int), (∀ q ∈ l, ¬ q.1 = k) → Op.lookupswitch.offset l d k = d
  | [], _, _, _ => rfl
  | q :: l, d, k, h => by
    rw [show Op.lookupswitch.offset (q :: l) d k = if q.1 = k then q.2 else Op.lookupswitch.offset l d k from rfl, if_neg (h q List.mem_cons_self)]
    exact lk_out l d k (fun q hq => h q (List.mem_cons_of_mem _ hq))
def oI : Int32 ⊕ String → mO
  | .inl v => .inl (some (.int v))
  | .inr E => .inr E
def oF : UInt32 ⊕ String → mO
  | .inl v => .inl (some (.float v))
  | .inr E => .inr E
def oD : UInt64 ⊕ String → mO
  | .inl v => .inl (some (.double v))
  | .inr E => .inr E
abbrev KM : Nat := 603072
abbrev NMX : Nat := 7178346
theorem aw_20 : Cond.arrayClass (newarray.typeOf .int) ∈ gw := by decide +kernel
theorem aw_21 : Cond.arrayClass (newarray.typeOf .char) ∈ gw := by decide +kernel
theorem aw_22 : Cond.arrayClass (newarray.typeOf .long) ∈ gw := by decide +kernel
theorem aw_23 : Cond.arrayClass (newarray.typeOf .double) ∈ gw := by decide +kernel
theorem nw_ao {G : mG} {p : Program} {l : Launch} {s : State} {m : MethodId} {args : Array Value} {meth : Method} {c : Code} {own : String} {cc : ByteArray} {nL : Nat} {ret : Option FieldType} {tb : List ExceptionTableEntry} (C : Cx G p l s m args meth c own cc nL ret tb) : va_AO RX4 s := C.2.2.2.2.2.2.1.2.2.2.2.2.2.2.2
section JR5
variable {G : mG} {p : Program} {l : Launch} {e : Env} {R : Room} {s : State} {m : MethodId} {args : Array Value} {below : List Frame} {meth : Method} {c : Code} {nL k n : Nat} {Q : State → Prop}
variable {pc : Nat} {L : mL} {st : List Value} {Z Z1 : mZ} {M M1 : mM} {rm : Room}
theorem j_run1 {v : Value} {rest : List Value} (h : CRun G p l e R s m args below meth c nL k n pc L st rest Z M rm (.inl (some v)) Z1 M1)
    (kk : JJ G p l e R s m args below meth c nL Q (k + rm.cells) (n + rm.slots) (pc + 3) L (v :: rest) Z1 M1) : JJ G p l e R s m args below meth c nL Q k n pc L st Z M := j_run h kk
theorem j_run0 {rest : List Value} (h : CRun G p l e R s m args below meth c nL k n pc L st rest Z M rm (.inl none) Z1 M1)
    (kk : JJ G p l e R s m args below meth c nL Q (k + rm.cells) (n + rm.slots) (pc + 3) L rest Z1 M1) : JJ G p l e R s m args below meth c nL Q k n pc L st Z M := j_run h kk
theorem j_nm (eZ : Z1 = Z) (eM : M1 = M) (kk : JJ G p l e R s m args below meth c nL Q k n pc L st Z1 M1) : JJ G p l e R s m args below meth c nL Q k n pc L st Z M := by
  subst eZ; subst eM; exact kk
variable {own : String} {cc : ByteArray} {ret : Option FieldType} {tb : List ExceptionTableEntry}
theorem j_mmax (C : Cx G p l s m args meth c own cc nL ret tb) {idx : Nat} {x y : Int32} (ok : okM own idx Lib.Math.max.name Lib.Math.max.code = true) (hf : 1 ≤ R.frames) (hlo : (st.map fun v => v.category).sum + 13 ≤ R.locals) (hk : k ≤ R.cells) (hn : n ≤ R.slots) (d : decode cc pc = .ok (.invokestatic idx, 3))
    (kk : JJ G p l e R s m args below meth c nL Q k n (pc + 3) L (.int (if x < y then y else x) :: st) Z M) : JJ G p l e R s m args below meth c nL Q k n pc L (.int y :: .int x :: st) Z M := by
  intro H locs ls hR hS hL
  simp only [okM, Bool.and_eq_true, decide_eq_true_eq] at ok
  obtain ⟨⟨⟨ok1, ok2⟩, ok3⟩, ok4⟩ := ok
  have hts := C.2.2.2.2.1
  exact va_mmax C.1 C.2.1 (C.2.2.1.trans hL.1.symm) C.2.2.2.1 (hts _ ok1) (hts _ ok2) (hts _ ok3) (hts _ ok4) hf (by rw [cats_cv]; exact hlo) hk hn d (kk H locs ls hR hS hL)
theorem j_mmin (C : Cx G p l s m args meth c own cc nL ret tb) {idx : Nat} {x y : Int32} (ok : okM own idx Lib.Math.min.name Lib.Math.min.code = true) (hf : 1 ≤ R.frames) (hlo : (st.map fun v => v.category).sum + 13 ≤ R.locals) (hk : k ≤ R.cells) (hn : n ≤ R.slots) (d : decode cc pc = .ok (.invokestatic idx, 3))
    (kk : JJ G p l e R s m args below meth c nL Q k n (pc + 3) L (.int (if y < x then y else x) :: st) Z M) : JJ G p l e R s m args below meth c nL Q k n pc L (.int y :: .int x :: st) Z M := by
  intro H locs ls hR hS hL
  simp only [okM, Bool.and_eq_true, decide_eq_true_eq] at ok
  obtain ⟨⟨⟨ok1, ok2⟩, ok3⟩, ok4⟩ := ok
  have hts := C.2.2.2.2.1
  exact va_mmin C.1 C.2.1 (C.2.2.1.trans hL.1.symm) C.2.2.2.1 (hts _ ok1) (hts _ ok2) (hts _ ok3) (hts _ ok4) hf (by rw [cats_cv]; exact hlo) hk hn d (kk H locs ls hR hS hL)
end JR5
