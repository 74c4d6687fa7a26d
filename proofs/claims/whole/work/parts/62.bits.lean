/-! ===== LAYER 3: the reference's bits; ties that are fewest ===== -/
def btF : Nat → Int32 → Int32 → Option Int32
  | 0, _, _ => none
  | fu + 1, a, v => if v = 0 then some a else btF fu (a + 1) (v &&& (v - 1))
theorem btF_more : ∀ (fu k : Nat) (a v r : Int32), btF fu a v = some r → btF (fu + k) a v = some r
  | 0, _, _, _, _, h => by cases h
  | fu + 1, k, a, v, r, h => by
    rw [show fu + 1 + k = (fu + k) + 1 by omega]
    unfold btF at h ⊢
    by_cases q : v = 0
    · rw [if_pos q] at h ⊢; exact h
    · rw [if_neg q] at h ⊢; exact btF_more fu k _ _ r h
theorem bits4_btF {N : Nat} {Z : mZ} {M : mM} : ∀ (fu : Nat) (a v r : Int32), btF fu a v = some r → fX9_bits_4 N Z fu a v M = some (r, M)
  | 0, _, _, _, h => by cases h
  | fu + 1, a, v, r, h => by
    unfold btF at h
    rw [fX9_bits_4]
    by_cases q : v = 0
    · rw [if_pos q] at h ⊢; cases h; rfl
    · rw [if_neg q] at h ⊢; exact bits4_btF fu _ _ r h
theorem bt_all : ∀ i, i < 128 → ∀ j, j < 64 → btF 14 0 (nI (64 * i + j)) = some (nI (pc (64 * i + j))) := by decide +kernel
theorem m_bits {N : Nat} {Z : mZ} {M : mM} (hN : 5000 ≤ N) {m : Nat} (hm : m < 8192) : fX9_bits N Z (nI m) M = some (nI (pc m), M) := by
  have h := bt_all (m / 64) (by omega) (m % 64) (by omega)
  rw [show 64 * (m / 64) + m % 64 = m by omega] at h
  have h2 := btF_more 14 (N - 14) 0 (nI m) _ h
  rw [show 14 + (N - 14) = N by omega] at h2
  unfold fX9_bits
  exact bits4_btF N 0 (nI m) _ h2
