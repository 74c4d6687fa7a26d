/-! ===== LAYER 3: numbers, reads and writes ===== -/
theorem i_0 : (0 : Int32) = nI 0 := rfl
theorem i_1 : (1 : Int32) = nI 1 := rfl
theorem i_2 : (2 : Int32) = nI 2 := rfl
theorem i_3 : (3 : Int32) = nI 3 := rfl
theorem i_4 : (4 : Int32) = nI 4 := rfl
theorem i_5 : (5 : Int32) = nI 5 := rfl
theorem i_6 : (6 : Int32) = nI 6 := rfl
theorem i_7 : (7 : Int32) = nI 7 := rfl
theorem i_8 : (8 : Int32) = nI 8 := rfl
theorem i_9 : (9 : Int32) = nI 9 := rfl
theorem i_10 : (10 : Int32) = nI 10 := rfl
theorem i_12 : (12 : Int32) = nI 12 := rfl
theorem i_13 : (13 : Int32) = nI 13 := rfl
theorem i_14 : (14 : Int32) = nI 14 := rfl
theorem i_15 : (15 : Int32) = nI 15 := rfl
theorem i_17 : (17 : Int32) = nI 17 := rfl
theorem i_20 : (20 : Int32) = nI 20 := rfl
theorem i_21 : (21 : Int32) = nI 21 := rfl
theorem i_31 : (31 : Int32) = nI 31 := rfl
theorem i_35 : (35 : Int32) = nI 35 := rfl
theorem i_48 : (48 : Int32) = nI 48 := rfl
theorem i_50 : (50 : Int32) = nI 50 := rfl
theorem i_57 : (57 : Int32) = nI 57 := rfl
theorem i_60 : (60 : Int32) = nI 60 := rfl
theorem i_70 : (70 : Int32) = nI 70 := rfl
theorem i_80 : (80 : Int32) = nI 80 := rfl
theorem i_91 : (91 : Int32) = nI 91 := rfl
theorem i_100 : (100 : Int32) = nI 100 := rfl
theorem i_101 : (101 : Int32) = nI 101 := rfl
theorem i_111 : (111 : Int32) = nI 111 := rfl
theorem i_120 : (120 : Int32) = nI 120 := rfl
theorem i_121 : (121 : Int32) = nI 121 := rfl
theorem i_200 : (200 : Int32) = nI 200 := rfl
theorem i_300 : (300 : Int32) = nI 300 := rfl
theorem i_600 : (600 : Int32) = nI 600 := rfl
theorem i_847 : (847 : Int32) = nI 847 := rfl
theorem i_900 : (900 : Int32) = nI 900 := rfl
theorem i_968 : (968 : Int32) = nI 968 := rfl
theorem i_999 : (999 : Int32) = nI 999 := rfl
theorem i_2000 : (2000 : Int32) = nI 2000 := rfl
theorem ck_true {γ : Type} {k : Option γ} : ck true k = k := rfl
theorem i_ofNat (n : Nat) : Int32.ofNat n = nI n := rfl
theorem i_lt {a b : Nat} (ha : a < 2147483648) (hb : b < 2147483648) : (nI a < nI b) = (a < b) := propext (nI_ltI ha hb)
theorem i_le {a b : Nat} (ha : a < 2147483648) (hb : b < 2147483648) : (nI a ≤ nI b) = (a ≤ b) := propext (nI_leI ha hb)
theorem i_eq {a b : Nat} (ha : a < 2147483648) (hb : b < 2147483648) : (nI a = nI b) = (a = b) := propext (nI_eq ha hb)
theorem i_cl {n : Nat} (h : n < 2147483648) : (nI n).toNatClampNeg = n := nI_clamp h
theorem i_inB {i n : Nat} (hi : i < 2147483648) : inB (nI i) n = decide (i < n) := by
  have h0 : (0 : Int32) ≤ nI i := nI_pos' hi
  simp [inB, h0, i_cl hi]
theorem i_sub {a b : Nat} (h : b ≤ a) : nI a - nI b = nI (a - b) := pk_sub h
theorem i_m1 : (-1 : Int32) = -nI 1 := rfl
theorem okI_of {Z : mZ} {r : Nat} (h : okO Z r 20 = true) : okI Z r = true := by simp [okI, h]
theorem okI_lo {Z : mZ} {r : Nat} (h : r < 5) : okI Z r = true := by simp [okI, h]
theorem sI_same (M : mM) (b k : Nat) (v : Int32) : (sI M b k v).1 b k = v := by simp [sI]
theorem sI_ne (M : mM) {b k a j : Nat} (v : Int32) (h : ¬ (a = b ∧ j = k)) : (sI M b k v).1 a j = M.1 a j := by simp [sI, h]
theorem sI_2 (M : mM) (b k : Nat) (v : Int32) : (sI M b k v).2 = M.2 := rfl
/-- memory is the same off a set of cells, the rest too -/
def Same (S : Nat → Prop) (M M' : mM) : Prop := (∀ a, ¬ S a → ∀ j, M'.1 a j = M.1 a j) ∧ M'.2 = M.2
theorem Same.rfl {S : Nat → Prop} {M : mM} : Same S M M := ⟨fun _ _ _ => Eq.refl _, Eq.refl _⟩
theorem Same.trans {S : Nat → Prop} {M M' M'' : mM} (h : Same S M M') (h' : Same S M' M'') : Same S M M'' := ⟨fun a ha j => (h'.1 a ha j).trans (h.1 a ha j), h'.2.trans h.2⟩
theorem Same.mono {S S' : Nat → Prop} {M M' : mM} (h : Same S M M') (hs : ∀ a, S a → S' a) : Same S' M M' := ⟨fun a ha j => h.1 a (fun q => ha (hs a q)) j, h.2⟩
theorem Same.put {S : Nat → Prop} {M : mM} {b k : Nat} {v : Int32} (h : S b) : Same S M (sI M b k v) := ⟨fun a ha j => sI_ne M v (fun q => ha (by rw [q.1]; exact h)), Eq.refl _⟩
theorem k_at {N : Nat} {Z : mZ} {r i : Nat} {M : mM} (ho : okI Z r = true) (hi : i < Z.2.2.1 r) (hn : Z.2.2.1 r < 2147483648) : fX8_at N Z r (nI i) M = some (M.1 r i, M) := by
  unfold fX8_at
  rw [if_neg (nI_pos (by omega)), ck_t ho, if_neg (by rw [i_ofNat, i_le hn (by omega)]; omega), ck_t (by rw [i_inB (by omega)]; exact decide_eq_true hi), i_cl (by omega)]
theorem k_at_out {N : Nat} {Z : mZ} {r i : Nat} {M : mM} (ho : okI Z r = true) (hi : Z.2.2.1 r ≤ i) (hn : i < 2147483648) : fX8_at N Z r (nI i) M = some (0, M) := by
  unfold fX8_at
  rw [if_neg (nI_pos (by omega)), ck_t ho, if_pos (by rw [i_ofNat, i_le (by omega) (by omega)]; omega)]
theorem k_write {N : Nat} {Z : mZ} {r i : Nat} {v : Int32} {M : mM} (ho : okO Z r 20 = true) (hi : i < Z.2.2.1 r) (hn : Z.2.2.1 r < 2147483648) : fX8_write N Z r (nI i) v M = some ((), sI M r i v) := by
  unfold fX8_write
  rw [if_neg (nI_pos (by omega)), ck_t (okI_of ho), if_neg (by rw [i_ofNat, i_le hn (by omega)]; omega), ck_t ho, ck_t (by rw [i_inB (by omega)]; exact decide_eq_true hi), i_cl (by omega)]
/-- one bit of a mask -/
theorem bit_shr {m l : Nat} (hm : m < 2147483648) (hl : l < 32) : nI m >>> (nI l &&& 31) = nI (m / 2 ^ l) := by
  refine pk_shrN hm _ l ?_
  have h : ∀ l, l < 32 → ((nI l &&& 31).toBitVec.smod 32).toNat = l := by decide +kernel
  exact h l hl
theorem bit_one {m : Nat} (hm : m < 2147483648) : nI m &&& 1 = nI (m % 2) := pk_andN (by omega) 1 (by decide)
theorem bit_test {m l : Nat} (hm : m < 2147483648) (hl : l < 32) : (((nI m >>> (nI l &&& 31)) &&& (1 : Int32)) = 0) = (m.testBit l = false) := by
  have h1 : m / 2 ^ l < 2147483648 := Nat.lt_of_le_of_lt (Nat.div_le_self _ _) hm
  rw [bit_shr hm hl, bit_one h1, show (0 : Int32) = nI 0 from rfl, i_eq (by omega) (by omega)]
  rw [Nat.testBit_eq_decide_div_mod_eq]
  apply propext
  constructor
  · intro h; simp [h]
  · intro h
    have h2 := of_decide_eq_false h
    omega
theorem bit_shl {l : Nat} (hl : l < 31) : (1 : Int32) <<< (nI l &&& 31) = nI (2 ^ l) := by
  have h : ∀ l, l < 31 → (1 : Int32) <<< (nI l &&& 31) = nI (2 ^ l) := by decide +kernel
  exact h l hl
theorem nI_or (a b : Nat) : nI a ||| nI b = nI (a ||| b) := by
  apply Int32.toBitVec_inj.mp
  simp [nI, BitVec.ofNat_or]
theorem nI_and (a b : Nat) : nI a &&& nI b = nI (a &&& b) := by
  apply Int32.toBitVec_inj.mp
  simp [nI, BitVec.ofNat_and]
theorem nI_xor (a b : Nat) : nI a ^^^ nI b = nI (a ^^^ b) := by
  apply Int32.toBitVec_inj.mp
  simp [nI, BitVec.ofNat_xor]
/-! the shape -/
def ArrAt' (Z : mZ) (r n : Nat) : Prop := okO Z r 20 = true ∧ okI Z r = true ∧ Z.2.2.1 r = n
def PlanAt (Z : mZ) (b : Nat) : Prop := okO Z b 4 = true ∧ Z.2.2.2 b 2 = some (b + 1) ∧ Z.2.2.2 b 3 = some (b + 2) ∧ Z.2.2.2 b 4 = some (b + 3) ∧ Z.2.2.2 b 5 = some (b + 4) ∧ Z.2.2.2 b 6 = some (b + 5) ∧
  ArrAt' Z (b + 1) 10 ∧ ArrAt' Z (b + 2) 60 ∧ ArrAt' Z (b + 3) 70 ∧ ArrAt' Z (b + 4) 3 ∧ ArrAt' Z (b + 5) 6
