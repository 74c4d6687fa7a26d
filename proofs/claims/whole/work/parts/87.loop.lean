/-! ===== LAYER 3: the law: all calls ===== -/
section LP
variable {N L : Nat} {xs : Nat → Int32} {Z : mZ}
theorem end_lt {L i : Nat} (hL : L ≤ 2560) (hi : i ≤ 3000) : (Int32.ofNat L - (5 : Int32) < nI i) ↔ L < i + 5 := by
  rw [i_ofNat]
  by_cases q : 5 ≤ L
  · rw [show nI L - (5 : Int32) = nI (L - 5) from i_sub (b := 5) q, i_lt (by omega) (by omega)]; omega
  · have h : (nI L - (5 : Int32)).toInt < 0 := by
      rcases (show L = 0 ∨ L = 1 ∨ L = 2 ∨ L = 3 ∨ L = 4 by omega) with rfl | rfl | rfl | rfl | rfl <;> decide
    rw [Int32.lt_iff_toInt_lt, nI_toInt (by omega)]
    omega
theorem law_all (hN : 5000 ≤ N) (hZ : LawZ Z L) (hL : L ≤ 2560) : ∀ (j i fu : Nat) (M : mM), L < 5 * (i + j) + 5 → j < fu → i + j ≤ 513 → LI xs (27 * i) Z M → ∃ M', fL_law_28 N Z fu 0 8 116 129 130 (nI (5 * i)) M = some (1, M') := by
  intro j
  induction j with
  | zero =>
    intro i fu M h1 h2 h3 h
    obtain ⟨fu, rfl⟩ : ∃ q, fu = q + 1 := ⟨fu - 1, by omega⟩
    rw [fL_law_28, ck_t (okI_lo (by omega)), hZ.2.2.2.2]
    exact ⟨M, if_pos ((end_lt hL (by omega)).2 (by omega))⟩
  | succ j ih =>
    intro i fu M h1 h2 h3 h
    obtain ⟨fu, rfl⟩ : ∃ q, fu = q + 1 := ⟨fu - 1, by omega⟩
    rw [fL_law_28, ck_t (okI_lo (by omega)), hZ.2.2.2.2]
    by_cases c : L < 5 * i + 5
    · exact ⟨M, if_pos ((end_lt hL (by omega)).2 c)⟩
    rw [if_neg (fun e => c ((end_lt hL (by omega)).1 e)), ck_t (by rw [i_inB (by omega)]; exact decide_eq_true (by omega))]
    have go : ∀ M16, LI xs (27 * i + 27) Z M16 → ∃ M', fL_law_28 N Z fu 0 8 116 129 130 (nI (5 * i) + (5 : Int32)) M16 = some (1, M') := fun M16 h16 => by
      rw [show nI (5 * i) + (5 : Int32) = nI (5 * (i + 1)) from (nI_add (5 * i) 5).trans (by rw [show 5 * i + 5 = 5 * (i + 1) by omega])]
      exact ih (i + 1) fu M16 (by omega) (by omega) (by omega) (by rw [show 27 * (i + 1) = 27 * i + 27 by omega]; exact h16)
    by_cases q0 : (M.1 0 (nI (5 * i)).toNatClampNeg &&& (31 : Int32)) = nI 0
    · rw [if_pos q0]
      obtain ⟨M16, e, h16⟩ := law_168 (i := 5 * i) hN hZ h (by omega) hL (by omega) (fun w0 w1 w2 w3 w4 w5 M9 => fL_law_28 N Z fu w0 w1 w2 w3 w4 w5 M9)
      rw [e]; exact go M16 h16
    rw [if_neg q0]
    by_cases q1 : (M.1 0 (nI (5 * i)).toNatClampNeg &&& (31 : Int32)) = nI 1
    · rw [if_pos q1]
      obtain ⟨M16, e, h16⟩ := law_224 (i := 5 * i) hN hZ h (by omega) hL (by omega) (fun w0 w1 w2 w3 w4 w5 M9 => fL_law_28 N Z fu w0 w1 w2 w3 w4 w5 M9)
      rw [e]; exact go M16 h16
    rw [if_neg q1]
    by_cases q2 : (M.1 0 (nI (5 * i)).toNatClampNeg &&& (31 : Int32)) = nI 2
    · rw [if_pos q2]
      obtain ⟨M16, e, h16⟩ := law_292 (i := 5 * i) hN hZ h (by omega) hL (by omega) (fun w0 w1 w2 w3 w4 w5 M9 => fL_law_28 N Z fu w0 w1 w2 w3 w4 w5 M9)
      rw [e]; exact go M16 h16
    rw [if_neg q2]
    by_cases q3 : (M.1 0 (nI (5 * i)).toNatClampNeg &&& (31 : Int32)) = nI 3
    · rw [if_pos q3]
      obtain ⟨M16, e, h16⟩ := law_360 (i := 5 * i) hN hZ h (by omega) hL (by omega) (fun w0 w1 w2 w3 w4 w5 M9 => fL_law_28 N Z fu w0 w1 w2 w3 w4 w5 M9)
      rw [e]; exact go M16 h16
    rw [if_neg q3]
    by_cases q4 : (M.1 0 (nI (5 * i)).toNatClampNeg &&& (31 : Int32)) = nI 4
    · rw [if_pos q4]
      obtain ⟨M16, e, h16⟩ := law_416 (i := 5 * i) hN hZ h (by omega) hL (by omega) (fun w0 w1 w2 w3 w4 w5 M9 => fL_law_28 N Z fu w0 w1 w2 w3 w4 w5 M9)
      rw [e]; exact go M16 h16
    rw [if_neg q4]
    by_cases q5 : (M.1 0 (nI (5 * i)).toNatClampNeg &&& (31 : Int32)) = nI 5
    · rw [if_pos q5]
      obtain ⟨M16, e, h16⟩ := law_472 (i := 5 * i) hN hZ h (by omega) hL (by omega) (fun w0 w1 w2 w3 w4 w5 M9 => fL_law_28 N Z fu w0 w1 w2 w3 w4 w5 M9)
      rw [e]; exact go M16 h16
    rw [if_neg q5]
    by_cases q6 : (M.1 0 (nI (5 * i)).toNatClampNeg &&& (31 : Int32)) = nI 6
    · rw [if_pos q6]
      obtain ⟨M16, e, h16⟩ := law_552 (i := 5 * i) hN hZ h (by omega) hL (by omega) (fun w0 w1 w2 w3 w4 w5 M9 => fL_law_28 N Z fu w0 w1 w2 w3 w4 w5 M9)
      rw [e]; exact go M16 h16
    rw [if_neg q6]
    by_cases q7 : (M.1 0 (nI (5 * i)).toNatClampNeg &&& (31 : Int32)) = nI 7
    · rw [if_pos q7]
      obtain ⟨M16, e, h16⟩ := law_632 (i := 5 * i) hN hZ h (by omega) hL (by omega) (fun w0 w1 w2 w3 w4 w5 M9 => fL_law_28 N Z fu w0 w1 w2 w3 w4 w5 M9)
      rw [e]; exact go M16 h16
    rw [if_neg q7]
    by_cases q8 : (M.1 0 (nI (5 * i)).toNatClampNeg &&& (31 : Int32)) = nI 8
    · rw [if_pos q8]
      obtain ⟨M16, e, h16⟩ := law_712 (i := 5 * i) hN hZ h (by omega) hL (by omega) (fun w0 w1 w2 w3 w4 w5 M9 => fL_law_28 N Z fu w0 w1 w2 w3 w4 w5 M9)
      rw [e]; exact go M16 h16
    rw [if_neg q8]
    by_cases q9 : (M.1 0 (nI (5 * i)).toNatClampNeg &&& (31 : Int32)) = nI 9
    · rw [if_pos q9]
      obtain ⟨M16, e, h16⟩ := law_820 (i := 5 * i) hN hZ h (by omega) hL (by omega) (fun w0 w1 w2 w3 w4 w5 M9 => fL_law_28 N Z fu w0 w1 w2 w3 w4 w5 M9)
      rw [e]; exact go M16 h16
    rw [if_neg q9]
    by_cases q10 : (M.1 0 (nI (5 * i)).toNatClampNeg &&& (31 : Int32)) = nI 10
    · rw [if_pos q10]
      obtain ⟨M16, e, h16⟩ := law_904 (i := 5 * i) hN hZ h (by omega) hL (by omega) (fun w0 w1 w2 w3 w4 w5 M9 => fL_law_28 N Z fu w0 w1 w2 w3 w4 w5 M9)
      rw [e]; exact go M16 h16
    rw [if_neg q10]
    by_cases q11 : (M.1 0 (nI (5 * i)).toNatClampNeg &&& (31 : Int32)) = nI 11
    · rw [if_pos q11]
      obtain ⟨M16, e, h16⟩ := law_972 (i := 5 * i) hN hZ h (by omega) hL (by omega) (fun w0 w1 w2 w3 w4 w5 M9 => fL_law_28 N Z fu w0 w1 w2 w3 w4 w5 M9)
      rw [e]; exact go M16 h16
    rw [if_neg q11]
    by_cases q12 : (M.1 0 (nI (5 * i)).toNatClampNeg &&& (31 : Int32)) = nI 12
    · rw [if_pos q12]
      obtain ⟨M16, e, h16⟩ := law_1040 (i := 5 * i) hN hZ h (by omega) hL (by omega) (fun w0 w1 w2 w3 w4 w5 M9 => fL_law_28 N Z fu w0 w1 w2 w3 w4 w5 M9)
      rw [e]; exact go M16 h16
    rw [if_neg q12]
    by_cases q13 : (M.1 0 (nI (5 * i)).toNatClampNeg &&& (31 : Int32)) = nI 13
    · rw [if_pos q13]
      obtain ⟨M16, e, h16⟩ := law_1108 (i := 5 * i) hN hZ h (by omega) hL (by omega) (fun w0 w1 w2 w3 w4 w5 M9 => fL_law_28 N Z fu w0 w1 w2 w3 w4 w5 M9)
      rw [e]; exact go M16 h16
    rw [if_neg q13]
    by_cases q14 : (M.1 0 (nI (5 * i)).toNatClampNeg &&& (31 : Int32)) = nI 14
    · rw [if_pos q14]
      obtain ⟨M16, e, h16⟩ := law_1176 (i := 5 * i) hN hZ h (by omega) hL (by omega) (fun w0 w1 w2 w3 w4 w5 M9 => fL_law_28 N Z fu w0 w1 w2 w3 w4 w5 M9)
      rw [e]; exact go M16 h16
    rw [if_neg q14]
    by_cases q15 : (M.1 0 (nI (5 * i)).toNatClampNeg &&& (31 : Int32)) = nI 15
    · rw [if_pos q15]
      obtain ⟨M16, e, h16⟩ := law_1232 (i := 5 * i) hN hZ h (by omega) hL (by omega) (fun w0 w1 w2 w3 w4 w5 M9 => fL_law_28 N Z fu w0 w1 w2 w3 w4 w5 M9)
      rw [e]; exact go M16 h16
    rw [if_neg q15]
    by_cases q16 : (M.1 0 (nI (5 * i)).toNatClampNeg &&& (31 : Int32)) = nI 16
    · rw [if_pos q16]
      obtain ⟨M16, e, h16⟩ := law_1288 (i := 5 * i) hN hZ h (by omega) hL (by omega) (fun w0 w1 w2 w3 w4 w5 M9 => fL_law_28 N Z fu w0 w1 w2 w3 w4 w5 M9)
      rw [e]; exact go M16 h16
    rw [if_neg q16]
    by_cases q17 : (M.1 0 (nI (5 * i)).toNatClampNeg &&& (31 : Int32)) = nI 17
    · rw [if_pos q17]
      obtain ⟨M16, e, h16⟩ := law_1356 (i := 5 * i) hN hZ h (by omega) hL (by omega) (fun w0 w1 w2 w3 w4 w5 M9 => fL_law_28 N Z fu w0 w1 w2 w3 w4 w5 M9)
      rw [e]; exact go M16 h16
    rw [if_neg q17]
    by_cases q18 : (M.1 0 (nI (5 * i)).toNatClampNeg &&& (31 : Int32)) = nI 18
    · rw [if_pos q18]
      obtain ⟨M16, e, h16⟩ := law_1400 (i := 5 * i) hN hZ h (by omega) hL (by omega) (fun w0 w1 w2 w3 w4 w5 M9 => fL_law_28 N Z fu w0 w1 w2 w3 w4 w5 M9)
      rw [e]; exact go M16 h16
    rw [if_neg q18]
    by_cases q19 : (M.1 0 (nI (5 * i)).toNatClampNeg &&& (31 : Int32)) = nI 19
    · rw [if_pos q19]
      obtain ⟨M16, e, h16⟩ := law_1468 (i := 5 * i) hN hZ h (by omega) hL (by omega) (fun w0 w1 w2 w3 w4 w5 M9 => fL_law_28 N Z fu w0 w1 w2 w3 w4 w5 M9)
      rw [e]; exact go M16 h16
    rw [if_neg q19]
    by_cases q20 : (M.1 0 (nI (5 * i)).toNatClampNeg &&& (31 : Int32)) = nI 20
    · rw [if_pos q20]
      obtain ⟨M16, e, h16⟩ := law_1524 (i := 5 * i) hN hZ h (by omega) hL (by omega) (fun w0 w1 w2 w3 w4 w5 M9 => fL_law_28 N Z fu w0 w1 w2 w3 w4 w5 M9)
      rw [e]; exact go M16 h16
    rw [if_neg q20]
    by_cases q21 : (M.1 0 (nI (5 * i)).toNatClampNeg &&& (31 : Int32)) = nI 21
    · rw [if_pos q21]
      obtain ⟨M16, e, h16⟩ := law_1602 (i := 5 * i) hN hZ h (by omega) hL (by omega) (fun w0 w1 w2 w3 w4 w5 M9 => fL_law_28 N Z fu w0 w1 w2 w3 w4 w5 M9)
      rw [e]; exact go M16 h16
    rw [if_neg q21]
    by_cases q22 : (M.1 0 (nI (5 * i)).toNatClampNeg &&& (31 : Int32)) = nI 22
    · rw [if_pos q22]
      obtain ⟨M16, e, h16⟩ := law_1667 (i := 5 * i) hN hZ h (by omega) hL (by omega) (fun w0 w1 w2 w3 w4 w5 M9 => fL_law_28 N Z fu w0 w1 w2 w3 w4 w5 M9)
      rw [e]; exact go M16 h16
    rw [if_neg q22]
    by_cases q23 : (M.1 0 (nI (5 * i)).toNatClampNeg &&& (31 : Int32)) = nI 23
    · rw [if_pos q23]
      obtain ⟨M16, e, h16⟩ := law_1725 (i := 5 * i) hN hZ h (by omega) hL (by omega) (fun w0 w1 w2 w3 w4 w5 M9 => fL_law_28 N Z fu w0 w1 w2 w3 w4 w5 M9)
      rw [e]; exact go M16 h16
    rw [if_neg q23]
    by_cases q24 : (M.1 0 (nI (5 * i)).toNatClampNeg &&& (31 : Int32)) = nI 24
    · rw [if_pos q24]
      obtain ⟨M16, e, h16⟩ := law_1769 (i := 5 * i) hN hZ h (by omega) hL (by omega) (fun w0 w1 w2 w3 w4 w5 M9 => fL_law_28 N Z fu w0 w1 w2 w3 w4 w5 M9)
      rw [e]; exact go M16 h16
    rw [if_neg q24]
    by_cases q25 : (M.1 0 (nI (5 * i)).toNatClampNeg &&& (31 : Int32)) = nI 25
    · rw [if_pos q25]
      obtain ⟨M16, e, h16⟩ := law_1813 (i := 5 * i) hN hZ h (by omega) hL (by omega) (fun w0 w1 w2 w3 w4 w5 M9 => fL_law_28 N Z fu w0 w1 w2 w3 w4 w5 M9)
      rw [e]; exact go M16 h16
    rw [if_neg q25]
    by_cases q26 : (M.1 0 (nI (5 * i)).toNatClampNeg &&& (31 : Int32)) = nI 26
    · rw [if_pos q26]
      obtain ⟨M16, e, h16⟩ := law_1826 (i := 5 * i) hN hZ h (by omega) hL (by omega) (fun w0 w1 w2 w3 w4 w5 M9 => fL_law_28 N Z fu w0 w1 w2 w3 w4 w5 M9)
      rw [e]; exact go M16 h16
    rw [if_neg q26]
    exact go M (h.mono (by omega) (by omega))
end LP
