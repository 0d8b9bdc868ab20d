def loS (T S : Nat → Nat) (l w : Nat) : Nat := if w < 7 then T (12 + 7 * l + w) else if w = 7 then S (1207 + l) else if w = 8 then S (1211 + l) else ctS T S l 0
section LOAN2
variable {B t c fed nd l : Nat} {T S tp im : Nat → Nat} {D G : Nat → Nat → Nat} {M N : Mm} {x y : Int32}
theorem p_loan_0 (hQ : CQ B t M T S c) (h : NL x (T 0)) : f_X7_loan B x y M = some (none, sN M 99 0) := by
  obtain ⟨hC, hB0, hT, hS, hW, hc, hs, hw, hc6⟩ := id hQ
  have w0 := hW.1
  have w1 := hW.2.1
  simp only [f_X7_loan, reduceIte, ↓reduceIte, gK, gR, gN, gIs, bR_s, bd_s, nm_s, ck, inb_nI, and_self, nI_clamp, fa_lit, pk_mul, nI_add, n10, n1z, n00, eq_self, not_true_eq_false, not_false_eq_true, hC, hB0, hT, hS, p_isLoan_n hQ h]
theorem p_loan_n (hQ : CQ B t M T S c) (hl : l < T 0) (h : NL y 10) : f_X7_loan B (nI l) y M = some (none, sN M 99 0) := by
  obtain ⟨hC, hB0, hT, hS, hW, hc, hs, hw, hc6⟩ := id hQ
  have w0 := hW.1
  have w1 := hW.2.1
  have z0 := NL_ne (by omega) h (j := 0) (by omega)
  have z1 := NL_ne (by omega) h (j := 1) (by omega)
  have z2 := NL_ne (by omega) h (j := 2) (by omega)
  have z3 := NL_ne (by omega) h (j := 3) (by omega)
  have z4 := NL_ne (by omega) h (j := 4) (by omega)
  have z5 := NL_ne (by omega) h (j := 5) (by omega)
  have z6 := NL_ne (by omega) h (j := 6) (by omega)
  have z7 := NL_ne (by omega) h (j := 7) (by omega)
  have z8 := NL_ne (by omega) h (j := 8) (by omega)
  have z9 := NL_ne (by omega) h (j := 9) (by omega)
  simp only [f_X7_loan, reduceIte, ↓reduceIte, gK, gR, gN, gIs, bR_s, bd_s, nm_s, ck, inb_nI, and_self, nI_clamp, fa_lit, pk_mul, nI_add, n10, n1z, n00, eq_self, not_true_eq_false, not_false_eq_true, hC, hB0, hT, hS, p_isLoan_y hQ hl, z0, z1, z2, z3, z4, z5, z6, z7, z8, z9]
theorem p_loan_0_ (hQ : CQ B t M T S c) (hl : l < T 0) : f_X7_loan B (nI l) (nI 0) M = some (some (nI (loS T S l 0)), M) := by
  obtain ⟨hC, hB0, hT, hS, hW, hc, hs, hw, hc6⟩ := id hQ
  have w0 := hW.1
  have w1 := hW.2.1
  have c2 := (hc.2.2.1 l hl).1
  simp (disch := omega) only [Nat.reduceEqDiff, Nat.reduceLT, f_X7_loan, reduceIte, ↓reduceIte, gK, gR, gN, gIs, bR_s, bd_s, nm_s, ck, inb_nI, and_self, nI_clamp, fa_lit, pk_mul, nI_add, n10, n1z, n00, eq_self, not_true_eq_false, not_false_eq_true, hC, hB0, hT, hS, p_isLoan_y hQ hl, nI_eq, c2, loS, Nat.add_zero]
theorem p_loan_1_ (hQ : CQ B t M T S c) (hl : l < T 0) : f_X7_loan B (nI l) (nI 1) M = some (some (nI (loS T S l 1)), M) := by
  obtain ⟨hC, hB0, hT, hS, hW, hc, hs, hw, hc6⟩ := id hQ
  have w0 := hW.1
  have w1 := hW.2.1
  have c2 := (hc.2.2.1 l hl).2.1
  simp (disch := omega) only [Nat.reduceEqDiff, Nat.reduceLT, f_X7_loan, reduceIte, ↓reduceIte, gK, gR, gN, gIs, bR_s, bd_s, nm_s, ck, inb_nI, and_self, nI_clamp, fa_lit, pk_mul, nI_add, n10, n1z, n00, eq_self, not_true_eq_false, not_false_eq_true, hC, hB0, hT, hS, p_isLoan_y hQ hl, nI_eq, c2, loS, Nat.add_zero]
theorem p_loan_2_ (hQ : CQ B t M T S c) (hl : l < T 0) : f_X7_loan B (nI l) (nI 2) M = some (some (nI (loS T S l 2)), M) := by
  obtain ⟨hC, hB0, hT, hS, hW, hc, hs, hw, hc6⟩ := id hQ
  have w0 := hW.1
  have w1 := hW.2.1
  have c2 := (hc.2.2.1 l hl).2.2.1
  simp (disch := omega) only [Nat.reduceEqDiff, Nat.reduceLT, f_X7_loan, reduceIte, ↓reduceIte, gK, gR, gN, gIs, bR_s, bd_s, nm_s, ck, inb_nI, and_self, nI_clamp, fa_lit, pk_mul, nI_add, n10, n1z, n00, eq_self, not_true_eq_false, not_false_eq_true, hC, hB0, hT, hS, p_isLoan_y hQ hl, nI_eq, c2, loS, Nat.add_zero]
theorem p_loan_3_ (hQ : CQ B t M T S c) (hl : l < T 0) : f_X7_loan B (nI l) (nI 3) M = some (some (nI (loS T S l 3)), M) := by
  obtain ⟨hC, hB0, hT, hS, hW, hc, hs, hw, hc6⟩ := id hQ
  have w0 := hW.1
  have w1 := hW.2.1
  have c2 := (hc.2.2.1 l hl).2.2.2.1
  simp (disch := omega) only [Nat.reduceEqDiff, Nat.reduceLT, f_X7_loan, reduceIte, ↓reduceIte, gK, gR, gN, gIs, bR_s, bd_s, nm_s, ck, inb_nI, and_self, nI_clamp, fa_lit, pk_mul, nI_add, n10, n1z, n00, eq_self, not_true_eq_false, not_false_eq_true, hC, hB0, hT, hS, p_isLoan_y hQ hl, nI_eq, c2, loS, Nat.add_zero]
theorem p_loan_4_ (hQ : CQ B t M T S c) (hl : l < T 0) : f_X7_loan B (nI l) (nI 4) M = some (some (nI (loS T S l 4)), M) := by
  obtain ⟨hC, hB0, hT, hS, hW, hc, hs, hw, hc6⟩ := id hQ
  have w0 := hW.1
  have w1 := hW.2.1
  have c2 := (hc.2.2.1 l hl).2.2.2.2.1
  simp (disch := omega) only [Nat.reduceEqDiff, Nat.reduceLT, f_X7_loan, reduceIte, ↓reduceIte, gK, gR, gN, gIs, bR_s, bd_s, nm_s, ck, inb_nI, and_self, nI_clamp, fa_lit, pk_mul, nI_add, n10, n1z, n00, eq_self, not_true_eq_false, not_false_eq_true, hC, hB0, hT, hS, p_isLoan_y hQ hl, nI_eq, c2, loS, Nat.add_zero]
theorem p_loan_5_ (hQ : CQ B t M T S c) (hl : l < T 0) : f_X7_loan B (nI l) (nI 5) M = some (some (nI (loS T S l 5)), M) := by
  obtain ⟨hC, hB0, hT, hS, hW, hc, hs, hw, hc6⟩ := id hQ
  have w0 := hW.1
  have w1 := hW.2.1
  have c2 := (hc.2.2.1 l hl).2.2.2.2.2.1
  simp (disch := omega) only [Nat.reduceEqDiff, Nat.reduceLT, f_X7_loan, reduceIte, ↓reduceIte, gK, gR, gN, gIs, bR_s, bd_s, nm_s, ck, inb_nI, and_self, nI_clamp, fa_lit, pk_mul, nI_add, n10, n1z, n00, eq_self, not_true_eq_false, not_false_eq_true, hC, hB0, hT, hS, p_isLoan_y hQ hl, nI_eq, c2, loS, Nat.add_zero]
theorem p_loan_6_ (hQ : CQ B t M T S c) (hl : l < T 0) : f_X7_loan B (nI l) (nI 6) M = some (some (nI (loS T S l 6)), M) := by
  obtain ⟨hC, hB0, hT, hS, hW, hc, hs, hw, hc6⟩ := id hQ
  have w0 := hW.1
  have w1 := hW.2.1
  have c2 := (hc.2.2.1 l hl).2.2.2.2.2.2
  simp (disch := omega) only [Nat.reduceEqDiff, Nat.reduceLT, f_X7_loan, reduceIte, ↓reduceIte, gK, gR, gN, gIs, bR_s, bd_s, nm_s, ck, inb_nI, and_self, nI_clamp, fa_lit, pk_mul, nI_add, n10, n1z, n00, eq_self, not_true_eq_false, not_false_eq_true, hC, hB0, hT, hS, p_isLoan_y hQ hl, nI_eq, c2, loS, Nat.add_zero]
theorem p_loan_7_ (hQ : CQ B t M T S c) (hl : l < T 0) : f_X7_loan B (nI l) (nI 7) M = some (some (nI (loS T S l 7)), M) := by
  obtain ⟨hC, hB0, hT, hS, hW, hc, hs, hw, hc6⟩ := id hQ
  have w0 := hW.1
  have w1 := hW.2.1
  have c2 := (hs.2.2.1 l hl).1
  simp (disch := omega) only [Nat.reduceEqDiff, Nat.reduceLT, f_X7_loan, reduceIte, ↓reduceIte, gK, gR, gN, gIs, bR_s, bd_s, nm_s, ck, inb_nI, and_self, nI_clamp, fa_lit, pk_mul, nI_add, n10, n1z, n00, eq_self, not_true_eq_false, not_false_eq_true, hC, hB0, hT, hS, p_isLoan_y hQ hl, nI_eq, c2, loS, Nat.add_zero]
theorem p_loan_8_ (hQ : CQ B t M T S c) (hl : l < T 0) : f_X7_loan B (nI l) (nI 8) M = some (some (nI (loS T S l 8)), M) := by
  obtain ⟨hC, hB0, hT, hS, hW, hc, hs, hw, hc6⟩ := id hQ
  have w0 := hW.1
  have w1 := hW.2.1
  have c2 := (hs.2.2.1 l hl).2
  simp (disch := omega) only [Nat.reduceEqDiff, Nat.reduceLT, f_X7_loan, reduceIte, ↓reduceIte, gK, gR, gN, gIs, bR_s, bd_s, nm_s, ck, inb_nI, and_self, nI_clamp, fa_lit, pk_mul, nI_add, n10, n1z, n00, eq_self, not_true_eq_false, not_false_eq_true, hC, hB0, hT, hS, p_isLoan_y hQ hl, nI_eq, c2, loS, Nat.add_zero]
theorem p_loan_9_ (hQ : CQ B t M T S c) (hl : l < T 0) : f_X7_loan B (nI l) (nI 9) M = some (some (nI (loS T S l 9)), M) := by
  obtain ⟨hC, hB0, hT, hS, hW, hc, hs, hw, hc6⟩ := id hQ
  have w0 := hW.1
  have w1 := hW.2.1
  have c2 := p_countBonds hQ hl (st := 0) (by omega)
  simp (disch := omega) only [Nat.reduceEqDiff, Nat.reduceLT, f_X7_loan, reduceIte, ↓reduceIte, gK, gR, gN, gIs, bR_s, bd_s, nm_s, ck, inb_nI, and_self, nI_clamp, fa_lit, pk_mul, nI_add, n10, n1z, n00, eq_self, not_true_eq_false, not_false_eq_true, hC, hB0, hT, hS, p_isLoan_y hQ hl, nI_eq, c2, loS, Nat.add_zero]
theorem p_loan_y (hQ : CQ B t M T S c) (hl : l < T 0) {w : Nat} (hw : w < 10) : f_X7_loan B (nI l) (nI w) M = some (some (nI (loS T S l w)), M) := by
  rcases (show w = 0 ∨ w = 1 ∨ w = 2 ∨ w = 3 ∨ w = 4 ∨ w = 5 ∨ w = 6 ∨ w = 7 ∨ w = 8 ∨ w = 9 by omega) with rfl | rfl | rfl | rfl | rfl | rfl | rfl | rfl | rfl | rfl
  · exact p_loan_0_ hQ hl
  · exact p_loan_1_ hQ hl
  · exact p_loan_2_ hQ hl
  · exact p_loan_3_ hQ hl
  · exact p_loan_4_ hQ hl
  · exact p_loan_5_ hQ hl
  · exact p_loan_6_ hQ hl
  · exact p_loan_7_ hQ hl
  · exact p_loan_8_ hQ hl
  · exact p_loan_9_ hQ hl
theorem q_loan_26_n (hR : RQ B N T S c) {u v : Int32} : f_X8_loan_26 (B + 59) u v (nI 1) (B + 59) N = some (nI 0, sI N (B + 59) 0 (nI 1)) := by
  have hD := hR.1
  have hD' := (hR.th (j := 0) (v := nI 1)).1
  have e : (sI N (B + 59) 0 (nI 1)).1 (B + 59) 0 = nI 1 := by
    show (if B + 59 = B + 59 ∧ 0 = 0 then _ else _) = _
    rw [if_pos ⟨rfl, rfl⟩]
  simp (disch := omega) only [f_X8_loan_26, reduceIte, ↓reduceIte, gK, gR, gN, gIs, bR_s, bd_s, nm_s, ck, inb_nI, and_self, nI_clamp, fa_lit, pk_mul, nI_add, n10, n1z, n00, eq_self, not_true_eq_false, not_false_eq_true, hD, hD', e, nI_leI, Nat.reduceLeDiff]
theorem q_loan_0 (hR : RQ B N T S c) (h : NL x (T 0)) : f_X8_loan (B + 59) x y N = some (nI 0, sI N (B + 59) 0 (nI 1)) := by
  have hD := hR.1
  have q := q_loan_26_n hR (u := x) (v := y)
  simp only [f_X8_loan, reduceIte, ↓reduceIte, gK, gR, gN, gIs, bR_s, bd_s, nm_s, ck, inb_nI, and_self, nI_clamp, fa_lit, pk_mul, nI_add, n10, n1z, n00, eq_self, not_true_eq_false, not_false_eq_true, hD, q_isLoan_n hR h] at q ⊢
  exact q
theorem q_loan_n (hR : RQ B N T S c) (hl : l < T 0) (h : NL y 10) : f_X8_loan (B + 59) (nI l) y N = some (nI 0, sI N (B + 59) 0 (nI 1)) := by
  have hD := hR.1
  have q := q_loan_26_n hR (u := nI l) (v := y)
  rcases h with h | ⟨h, h2⟩
  · simp (disch := omega) only [f_X8_loan, reduceIte, ↓reduceIte, gK, gR, gN, gIs, bR_s, bd_s, nm_s, ck, inb_nI, and_self, nI_clamp, fa_lit, pk_mul, nI_add, n10, n1z, n00, eq_self, not_true_eq_false, not_false_eq_true, hD, q_isLoan_y hR hl, fa_litL, wiN, h] at q ⊢
    exact q
  · have h5 : nI 9 < y := by
      rw [fa_le] at h2
      rw [fa_lt]
      have a1 : (nI 9).toInt = 9 := by decide
      have a2 : (nI 10).toInt = 10 := by decide
      omega
    simp (disch := omega) only [f_X8_loan, reduceIte, ↓reduceIte, gK, gR, gN, gIs, bR_s, bd_s, nm_s, ck, inb_nI, and_self, nI_clamp, fa_lit, pk_mul, nI_add, n10, n1z, n00, eq_self, not_true_eq_false, not_false_eq_true, hD, q_isLoan_y hR hl, fa_litL, wiN, h, h5] at q ⊢
    exact q
theorem q_loan_y (hR : RQ B N T S c) (hl : l < T 0) {w : Nat} (hw : w < 10) : f_X8_loan (B + 59) (nI l) (nI w) N = some (nI (loS T S l w), sI N (B + 59) 0 (nI 0)) := by
  have hR' := hR.th (j := 0) (v := nI 0)
  have hD := hR.1
  have hD' := hR'.1
  have w0 := hR.2.2.2.1.1
  have e : (sI N (B + 59) 0 (nI 0)).1 (B + 59) 0 = nI 0 := by
    show (if B + 59 = B + 59 ∧ 0 = 0 then _ else _) = _
    rw [if_pos ⟨rfl, rfl⟩]
  have a1 : ¬ w < 0 := by omega
  have a2 : ¬ 9 < w := by omega
  have n7 := hR'.2.2.1 (1207 + l) (by omega)
  have n8 := hR'.2.2.1 (1211 + l) (by omega)
  have n9 := q_howMany hR' hl (st := 0) (by omega)
  by_cases h7 : w < 7
  · have lo := q_loanOf hR' hl h7
    have b7 : ¬ 7 ≤ w := by omega
    simp (disch := omega) only [f_X8_loan, f_X8_loan_26, reduceIte, ↓reduceIte, gK, gR, gN, gIs, bR_s, bd_s, nm_s, ck, inb_nI, and_self, nI_clamp, fa_lit, pk_mul, nI_add, n10, n1z, n00, eq_self, not_true_eq_false, not_false_eq_true, hD, hD', q_isLoan_y hR hl, fa_litL, wiN, nI_ltI, nI_leI, nI_eq, a1, a2, e, Nat.le_refl, b7, lo, loS, h7]
  · have b7 : 7 ≤ w := by omega
    by_cases h8 : w = 7
    · simp (disch := omega) only [f_X8_loan, f_X8_loan_26, reduceIte, ↓reduceIte, gK, gR, gN, gIs, bR_s, bd_s, nm_s, ck, inb_nI, and_self, nI_clamp, fa_lit, pk_mul, nI_add, n10, n1z, n00, eq_self, not_true_eq_false, not_false_eq_true, hD, hD', q_isLoan_y hR hl, fa_litL, wiN, nI_ltI, nI_leI, nI_eq, a1, a2, e, Nat.le_refl, b7, h8, n7, loS, Nat.lt_irrefl, Nat.reduceLT]
    · by_cases h9 : w = 8
      · simp (disch := omega) only [f_X8_loan, f_X8_loan_26, reduceIte, ↓reduceIte, gK, gR, gN, gIs, bR_s, bd_s, nm_s, ck, inb_nI, and_self, nI_clamp, fa_lit, pk_mul, nI_add, n10, n1z, n00, eq_self, not_true_eq_false, not_false_eq_true, hD, hD', q_isLoan_y hR hl, fa_litL, wiN, nI_ltI, nI_leI, nI_eq, a1, a2, e, Nat.le_refl, h9, n8, loS, Nat.reduceLT, Nat.reduceLeDiff, Nat.reduceEqDiff]
      · simp (disch := omega) only [f_X8_loan, f_X8_loan_26, reduceIte, ↓reduceIte, gK, gR, gN, gIs, bR_s, bd_s, nm_s, ck, inb_nI, and_self, nI_clamp, fa_lit, pk_mul, nI_add, n10, n1z, n00, eq_self, not_true_eq_false, not_false_eq_true, hD, hD', q_isLoan_y hR hl, fa_litL, wiN, nI_ltI, nI_leI, nI_eq, a1, a2, e, Nat.le_refl, b7, h7, h8, h9, n9, loS]
/-- the call that may throw -/
theorem pr_loan (hcc : c + 1 ≤ 600) (hI : Inv B c M) : Ok (f_L_loan B x y (B + 70) M) (fun v N => N.2.2.2.1 (B + 59) = 8 ∧ Ok (f_X8_loan (B + 59) x y N) (fun w P => P.2.2.2.1 (B + 59) = 8 ∧ P.1 (B + 59) 0 = v ∧ (v = 0 → P.2.1 (B + 70) 0 = w.toInt64) ∧ P.2.2.2.1 (B + 70) = 13 ∧ P.2.2.2.2.1 (B + 70) = 1 ∧ Inv B (c + 1) P)) := by
  obtain ⟨t, T, S, fed, tp, nd, D, im, G, h1, h2, h3, h4, h5, h6⟩ := hI
  have hC := h1.1
  have w0 := h1.2.2.2.2.1.1
  have hth : ∀ (N : Mm) (v : Int32), KR B N (sI N (B + 59) 0 v) := fun N v => by
    refine ⟨rfl, fun a ha _ _ => sI_ne ha, ?_, ?_, rfl⟩
    · show (if _ ∧ 2 = 0 then _ else _) = _
      rw [if_neg (by omega)]
    · show (if _ ∧ 23 = 0 then _ else _) = _
      rw [if_neg (by omega)]
  have e0 : ∀ (N : Mm) (v : Int32), (sI N (B + 59) 0 v).1 (B + 59) 0 = v := fun N v => by
    show (if B + 59 = B + 59 ∧ 0 = 0 then _ else _) = _
    rw [if_pos ⟨rfl, rfl⟩]
  have thrown : f_X7_loan B x y M = some (none, sN M 99 0) → (∀ N, RQ B N T S c → f_X8_loan (B + 59) x y N = some (nI 0, sI N (B + 59) 0 (nI 1))) → Ok (f_L_loan B x y (B + 70) M) (fun v N => N.2.2.2.1 (B + 59) = 8 ∧ Ok (f_X8_loan (B + 59) x y N) (fun w P => P.2.2.2.1 (B + 59) = 8 ∧ P.1 (B + 59) 0 = v ∧ (v = 0 → P.2.1 (B + 70) 0 = w.toInt64) ∧ P.2.2.2.1 (B + 70) = 13 ∧ P.2.2.2.2.1 (B + 70) = 1 ∧ Inv B (c + 1) P)) := by
    intro e1 e2
    have hN := inv_new (kd := 99) (n := 0) ⟨h1, h2, h3, h4, h5⟩
    have hT : B + 71 ≤ gT M := h3.2.2.2.2.2.2.2.2.2.1
    refine ⟨nI 1, sN M 99 0, ?_, hN.2.1.1.1, nI 0, _, e2 _ hN.2.1, hN.2.1.1.1, e0 _ _, fun h => absurd h (by decide), ?_, ?_, ?_⟩
    · simp only [f_L_loan, reduceIte, ↓reduceIte, gK, gR, gN, gIs, bR_s, bd_s, nm_s, ck, inb_nI, and_self, nI_clamp, fa_lit, pk_mul, nI_add, n10, n1z, n00, eq_self, not_true_eq_false, not_false_eq_true, hC, e1, bdX]
    · exact hN.2.1.1.2.2.2.2.2.2.2.2.2.2.2.2.2.2.2.2.2.2.2.2.2.2.2.2.2.2.2.2.2.2.2.1
    · exact hN.2.1.1.2.2.2.2.2.2.2.2.2.2.2.2.2.2.2.2.2.2.2.2.2.2.2.2.2.2.2.2.2.2.2.2
    · refine inv_q hN hcc KC.rf (hth _ _) ?_
      show (sN M 99 0).2.1 B 6 = (sN M 99 0).2.1 (B + 59) 28
      rw [(sN_old (by omega)).2.1, (sN_old (by omega)).2.1]
      exact h6
  rcases ixL x (n := T 0) (by omega) with h | ⟨l, hl, rfl⟩
  · exact thrown (p_loan_0 h1 h) (fun N hN => q_loan_0 hN h)
  rcases ixL y (n := 10) (by omega) with h | ⟨w, hw, rfl⟩
  · exact thrown (p_loan_n h1 hl h) (fun N hN => q_loan_n hN hl h)
  have e1 := p_loan_y h1 hl hw
  have hD := h2.1
  have k1 : KC B M (sL M (B + 70) 0 (nI (loS T S l w)).toInt64) := by
    refine ⟨rfl, fun _ _ => rfl, ?_⟩
    funext i
    show (if B + 59 = B + 70 ∧ i = 0 then _ else _) = _
    rw [if_neg (by omega)]
  have hR2 : RQ B (sL M (B + 70) 0 (nI (loS T S l w)).toInt64) T S c := h2.keep rfl rfl rfl
  refine ⟨nI 0, sL M (B + 70) 0 (nI (loS T S l w)).toInt64, ?_, hD.1, nI (loS T S l w), _, q_loan_y hR2 hl hw, hD.1, e0 _ _, fun _ => ?_, ?_, ?_, ?_⟩
  · simp (disch := omega) only [f_L_loan, reduceIte, ↓reduceIte, gK, gR, gN, gIs, bR_s, bd_s, nm_s, ck, inb_nI, and_self, nI_clamp, fa_lit, pk_mul, nI_add, n10, n1z, n00, eq_self, not_true_eq_false, not_false_eq_true, hC, hD, e1, bdX]
  · show (if B + 70 = B + 70 ∧ 0 = 0 then _ else _) = _
    rw [if_pos ⟨rfl, rfl⟩]
  · exact hD.2.2.2.2.2.2.2.2.2.2.2.2.2.2.2.2.2.2.2.2.2.2.2.2.2.2.2.2.2.2.2.1
  · exact hD.2.2.2.2.2.2.2.2.2.2.2.2.2.2.2.2.2.2.2.2.2.2.2.2.2.2.2.2.2.2.2.2
  · refine inv_q ⟨h1, h2, h3, h4, h5⟩ hcc k1 (hth _ _) ?_
    show (if B = B + 70 ∧ _ then _ else M.2.1 B 6) = (if B + 59 = B + 70 ∧ _ then _ else M.2.1 (B + 59) 28)
    rw [if_neg (by omega), if_neg (by omega)]
    exact h6
end LOAN2
