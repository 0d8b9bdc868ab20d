def NL (x : Int32) (n : Nat) : Prop := x < nI 0 ∨ (¬ x < nI 0 ∧ nI n ≤ x)
def N1 (x : Int32) (n : Nat) : Prop := x < nI 1 ∨ (¬ x < nI 1 ∧ nI n < x)
theorem ixL (x : Int32) {n : Nat} (hn : n < 2 ^ 31) : NL x n ∨ ∃ j, j < n ∧ x = nI j := by
  rcases ix0 x hn with h | h | h
  · exact Or.inl (Or.inl h)
  · exact Or.inl (Or.inr h)
  · exact Or.inr h
theorem ixN (x : Int32) {n : Nat} (hn : n < 2 ^ 31 - 1) : N1 x n ∨ ∃ j, j < n ∧ x = nI (j + 1) := by
  rcases ix1 x hn with h | h | h
  · exact Or.inl (Or.inl h)
  · exact Or.inl (Or.inr h)
  · exact Or.inr h
theorem lt1_le {x : Int32} (h : x < nI 1) {n : Nat} (hn : n < 2 ^ 31) : x ≤ nI n := by
  rw [fa_lt] at h
  rw [fa_le, nI_toInt hn]
  have h2 : (nI 1).toInt = 1 := by decide
  omega
section IS
variable {B t l k c : Nat} {T S : Nat → Nat} {M : Mm} {x : Int32}
theorem p_isLoan_y (hQ : CQ B t M T S c) (hl : l < T 0) : f_X7_isLoan B (nI l) M = some (nI 1, M) := by
  obtain ⟨hC, hB0, hT, hS, hW, hc, hs, hw, hc6⟩ := id hQ
  have w0 := hW.1
  have w1 := hW.2.1
  have h1 : ¬ T 0 ≤ l := by omega
  simp (disch := omega) only [p_isLoan hQ, nI_ltI, nI_leI, h1, Nat.not_lt_zero, ite_false]
theorem p_isLoan_n (hQ : CQ B t M T S c) (h : NL x (T 0)) : f_X7_isLoan B x M = some (nI 0, M) := by
  rw [p_isLoan hQ]
  rcases h with h | ⟨h, h2⟩
  · rw [if_pos h]
  · rw [if_neg h, if_pos h2]
theorem p_isHolder_y (hQ : CQ B t M T S c) (hl : l < T 1) : f_X7_isHolder B (nI l) M = some (nI 1, M) := by
  obtain ⟨hC, hB0, hT, hS, hW, hc, hs, hw, hc6⟩ := id hQ
  have w0 := hW.1
  have w1 := hW.2.1
  have h1 : ¬ T 1 ≤ l := by omega
  simp (disch := omega) only [p_isHolder hQ, nI_ltI, nI_leI, h1, Nat.not_lt_zero, ite_false]
theorem p_isHolder_n (hQ : CQ B t M T S c) (h : NL x (T 1)) : f_X7_isHolder B x M = some (nI 0, M) := by
  rw [p_isHolder hQ]
  rcases h with h | ⟨h, h2⟩
  · rw [if_pos h]
  · rw [if_neg h, if_pos h2]
theorem p_isBond_y (hQ : CQ B t M T S c) (hl : l < T 0) (hk : k < T (12 + 7 * l)) : f_X7_isBond B (nI l) (nI (k + 1)) M = some (nI 1, M) := by
  obtain ⟨hC, hB0, hT, hS, hW, hc, hs, hw, hc6⟩ := id hQ
  have w0 := hW.1
  have w1 := hW.2.1
  have w := hW.2.2 l hl
  have c2 := hc.2.2.1 l hl
  have s6 := hs.1
  have h1 : ¬ k + 1 < 1 := by omega
  have h2 : ¬ T (12 + 7 * l) < k + 1 := by omega
  simp (disch := omega) only [f_X7_isBond, gK, gR, gN, gIs, bR_s, bd_s, nm_s, ck, inb_nI, and_self, ite_true, ite_false, nI_clamp, fa_lit, pk_mul, nI_add, n10, n1z, n00, eq_self, not_true_eq_false, not_false_eq_true, hC, hB0, hT, hS, c2, s6, nI_ltI, nI_leI, nI_eq, Nat.lt_irrefl, Nat.le_refl, p_isLoan_y hQ hl, h1, h2]
theorem p_isBond_n (hQ : CQ B t M T S c) (hl : l < T 0) (h : N1 x (T (12 + 7 * l))) : f_X7_isBond B (nI l) x M = some (nI 0, M) := by
  obtain ⟨hC, hB0, hT, hS, hW, hc, hs, hw, hc6⟩ := id hQ
  have w0 := hW.1
  have w1 := hW.2.1
  have w := hW.2.2 l hl
  have c2 := hc.2.2.1 l hl
  have s6 := hs.1
  rcases h with h | ⟨h, h2⟩
  · simp (disch := omega) only [f_X7_isBond, gK, gR, gN, gIs, bR_s, bd_s, nm_s, ck, inb_nI, and_self, ite_true, ite_false, nI_clamp, fa_lit, pk_mul, nI_add, n10, n1z, n00, eq_self, not_true_eq_false, not_false_eq_true, hC, hB0, hT, hS, c2, s6, nI_ltI, nI_leI, nI_eq, Nat.lt_irrefl, Nat.le_refl, p_isLoan_y hQ hl, h]
  · simp (disch := omega) only [f_X7_isBond, gK, gR, gN, gIs, bR_s, bd_s, nm_s, ck, inb_nI, and_self, ite_true, ite_false, nI_clamp, fa_lit, pk_mul, nI_add, n10, n1z, n00, eq_self, not_true_eq_false, not_false_eq_true, hC, hB0, hT, hS, c2, s6, nI_ltI, nI_leI, nI_eq, Nat.lt_irrefl, Nat.le_refl, p_isLoan_y hQ hl, h, h2]
theorem p_isBond_0 (hQ : CQ B t M T S c) (h : NL x (T 0)) {z : Int32} : f_X7_isBond B x z M = some (nI 0, M) := by
  obtain ⟨hC, hB0, hT, hS, hW, hc, hs, hw, hc6⟩ := id hQ
  have w0 := hW.1
  have w1 := hW.2.1
  simp (disch := omega) only [f_X7_isBond, gK, gR, gN, gIs, bR_s, bd_s, nm_s, ck, inb_nI, and_self, ite_true, ite_false, nI_clamp, fa_lit, pk_mul, nI_add, n10, n1z, n00, eq_self, not_true_eq_false, not_false_eq_true, hC, hB0, hT, hS, nI_ltI, nI_leI, nI_eq, Nat.lt_irrefl, Nat.le_refl, p_isLoan_n hQ h]
theorem p_isToCome_y (hQ : CQ B t M T S c) (hl : l < T 0) (hk : k < T (12 + 7 * l + 3)) (hy : S 1206 < k + 1) : f_X7_isToCome B (nI l) (nI (k + 1)) M = some (nI 1, M) := by
  obtain ⟨hC, hB0, hT, hS, hW, hc, hs, hw, hc6⟩ := id hQ
  have w0 := hW.1
  have w1 := hW.2.1
  have w := hW.2.2 l hl
  have c2 := hc.2.2.1 l hl
  have s6 := hs.1
  have w6 := hw.1
  have h1 : ¬ k + 1 < 1 := by omega
  have h2 : ¬ T (12 + 7 * l + 3) < k + 1 := by omega
  have h3 : ¬ k + 1 ≤ S 1206 := by omega
  simp (disch := omega) only [f_X7_isToCome, gK, gR, gN, gIs, bR_s, bd_s, nm_s, ck, inb_nI, and_self, ite_true, ite_false, nI_clamp, fa_lit, pk_mul, nI_add, n10, n1z, n00, eq_self, not_true_eq_false, not_false_eq_true, hC, hB0, hT, hS, c2, s6, nI_ltI, nI_leI, nI_eq, Nat.lt_irrefl, Nat.le_refl, p_isLoan_y hQ hl, h1, h2, h3]
theorem p_isToCome_m (hQ : CQ B t M T S c) (hl : l < T 0) (hk : k < T (12 + 7 * l + 3)) (hy : k + 1 ≤ S 1206) : f_X7_isToCome B (nI l) (nI (k + 1)) M = some (nI 0, M) := by
  obtain ⟨hC, hB0, hT, hS, hW, hc, hs, hw, hc6⟩ := id hQ
  have w0 := hW.1
  have w1 := hW.2.1
  have w := hW.2.2 l hl
  have c2 := hc.2.2.1 l hl
  have s6 := hs.1
  have w6 := hw.1
  have h1 : ¬ k + 1 < 1 := by omega
  have h2 : ¬ T (12 + 7 * l + 3) < k + 1 := by omega
  simp (disch := omega) only [f_X7_isToCome, gK, gR, gN, gIs, bR_s, bd_s, nm_s, ck, inb_nI, and_self, ite_true, ite_false, nI_clamp, fa_lit, pk_mul, nI_add, n10, n1z, n00, eq_self, not_true_eq_false, not_false_eq_true, hC, hB0, hT, hS, c2, s6, nI_ltI, nI_leI, nI_eq, Nat.lt_irrefl, Nat.le_refl, p_isLoan_y hQ hl, h1, h2, hy]
theorem p_isToCome_n (hQ : CQ B t M T S c) (hl : l < T 0) (h : N1 x (T (12 + 7 * l + 3))) : f_X7_isToCome B (nI l) x M = some (nI 0, M) := by
  obtain ⟨hC, hB0, hT, hS, hW, hc, hs, hw, hc6⟩ := id hQ
  have w0 := hW.1
  have w1 := hW.2.1
  have w := hW.2.2 l hl
  have c2 := hc.2.2.1 l hl
  have s6 := hs.1
  have w6 := hw.1
  rcases h with h | ⟨h, h2⟩
  · simp (disch := omega) only [f_X7_isToCome, gK, gR, gN, gIs, bR_s, bd_s, nm_s, ck, inb_nI, and_self, ite_true, ite_false, nI_clamp, fa_lit, pk_mul, nI_add, n10, n1z, n00, eq_self, not_true_eq_false, not_false_eq_true, hC, hB0, hT, hS, c2, s6, nI_ltI, nI_leI, nI_eq, Nat.lt_irrefl, Nat.le_refl, p_isLoan_y hQ hl, lt1_le h (n := S 1206) (by omega)]
  · by_cases h3 : x ≤ nI (S 1206)
    · simp (disch := omega) only [f_X7_isToCome, gK, gR, gN, gIs, bR_s, bd_s, nm_s, ck, inb_nI, and_self, ite_true, ite_false, nI_clamp, fa_lit, pk_mul, nI_add, n10, n1z, n00, eq_self, not_true_eq_false, not_false_eq_true, hC, hB0, hT, hS, c2, s6, nI_ltI, nI_leI, nI_eq, Nat.lt_irrefl, Nat.le_refl, p_isLoan_y hQ hl, h3]
    · simp (disch := omega) only [f_X7_isToCome, gK, gR, gN, gIs, bR_s, bd_s, nm_s, ck, inb_nI, and_self, ite_true, ite_false, nI_clamp, fa_lit, pk_mul, nI_add, n10, n1z, n00, eq_self, not_true_eq_false, not_false_eq_true, hC, hB0, hT, hS, c2, s6, nI_ltI, nI_leI, nI_eq, Nat.lt_irrefl, Nat.le_refl, p_isLoan_y hQ hl, h3, h2]
theorem p_isToCome_0 (hQ : CQ B t M T S c) (h : NL x (T 0)) {z : Int32} : f_X7_isToCome B x z M = some (nI 0, M) := by
  obtain ⟨hC, hB0, hT, hS, hW, hc, hs, hw, hc6⟩ := id hQ
  have w0 := hW.1
  have w1 := hW.2.1
  simp (disch := omega) only [f_X7_isToCome, gK, gR, gN, gIs, bR_s, bd_s, nm_s, ck, inb_nI, and_self, ite_true, ite_false, nI_clamp, fa_lit, pk_mul, nI_add, n10, n1z, n00, eq_self, not_true_eq_false, not_false_eq_true, hC, hB0, hT, hS, p_isLoan_n hQ h]
theorem p_isPassed_y (hQ : CQ B t M T S c) (hl : l < T 0) (hk : k < T (12 + 7 * l + 3)) (hy : k + 1 ≤ S 1206) : f_X7_isPassed B (nI l) (nI (k + 1)) M = some (nI 1, M) := by
  obtain ⟨hC, hB0, hT, hS, hW, hc, hs, hw, hc6⟩ := id hQ
  have w0 := hW.1
  have w1 := hW.2.1
  have w := hW.2.2 l hl
  have c2 := hc.2.2.1 l hl
  have s6 := hs.1
  have w6 := hw.1
  have h1 : ¬ k + 1 < 1 := by omega
  have h2 : ¬ T (12 + 7 * l + 3) < k + 1 := by omega
  have h3 : ¬ S 1206 < k + 1 := by omega
  simp (disch := omega) only [f_X7_isPassed, gK, gR, gN, gIs, bR_s, bd_s, nm_s, ck, inb_nI, and_self, ite_true, ite_false, nI_clamp, fa_lit, pk_mul, nI_add, n10, n1z, n00, eq_self, not_true_eq_false, not_false_eq_true, hC, hB0, hT, hS, c2, s6, nI_ltI, nI_leI, nI_eq, Nat.lt_irrefl, Nat.le_refl, p_isLoan_y hQ hl, h1, h2, h3]
theorem p_isPassed_m (hQ : CQ B t M T S c) (hl : l < T 0) (hk : k < T (12 + 7 * l + 3)) (hy : S 1206 < k + 1) : f_X7_isPassed B (nI l) (nI (k + 1)) M = some (nI 0, M) := by
  obtain ⟨hC, hB0, hT, hS, hW, hc, hs, hw, hc6⟩ := id hQ
  have w0 := hW.1
  have w1 := hW.2.1
  have w := hW.2.2 l hl
  have c2 := hc.2.2.1 l hl
  have s6 := hs.1
  have w6 := hw.1
  have h1 : ¬ k + 1 < 1 := by omega
  have h2 : ¬ T (12 + 7 * l + 3) < k + 1 := by omega
  simp (disch := omega) only [f_X7_isPassed, gK, gR, gN, gIs, bR_s, bd_s, nm_s, ck, inb_nI, and_self, ite_true, ite_false, nI_clamp, fa_lit, pk_mul, nI_add, n10, n1z, n00, eq_self, not_true_eq_false, not_false_eq_true, hC, hB0, hT, hS, c2, s6, nI_ltI, nI_leI, nI_eq, Nat.lt_irrefl, Nat.le_refl, p_isLoan_y hQ hl, h1, h2, hy]
theorem p_isPassed_n (hQ : CQ B t M T S c) (hl : l < T 0) (h : N1 x (T (12 + 7 * l + 3))) : f_X7_isPassed B (nI l) x M = some (nI 0, M) := by
  obtain ⟨hC, hB0, hT, hS, hW, hc, hs, hw, hc6⟩ := id hQ
  have w0 := hW.1
  have w1 := hW.2.1
  have w := hW.2.2 l hl
  have c2 := hc.2.2.1 l hl
  have s6 := hs.1
  have w6 := hw.1
  rcases h with h | ⟨h, h2⟩
  · simp (disch := omega) only [f_X7_isPassed, gK, gR, gN, gIs, bR_s, bd_s, nm_s, ck, inb_nI, and_self, ite_true, ite_false, nI_clamp, fa_lit, pk_mul, nI_add, n10, n1z, n00, eq_self, not_true_eq_false, not_false_eq_true, hC, hB0, hT, hS, c2, s6, nI_ltI, nI_leI, nI_eq, Nat.lt_irrefl, Nat.le_refl, p_isLoan_y hQ hl, h]
  · by_cases h3 : nI (S 1206) < x
    · simp (disch := omega) only [f_X7_isPassed, gK, gR, gN, gIs, bR_s, bd_s, nm_s, ck, inb_nI, and_self, ite_true, ite_false, nI_clamp, fa_lit, pk_mul, nI_add, n10, n1z, n00, eq_self, not_true_eq_false, not_false_eq_true, hC, hB0, hT, hS, c2, s6, nI_ltI, nI_leI, nI_eq, Nat.lt_irrefl, Nat.le_refl, p_isLoan_y hQ hl, h3, h]
    · simp (disch := omega) only [f_X7_isPassed, gK, gR, gN, gIs, bR_s, bd_s, nm_s, ck, inb_nI, and_self, ite_true, ite_false, nI_clamp, fa_lit, pk_mul, nI_add, n10, n1z, n00, eq_self, not_true_eq_false, not_false_eq_true, hC, hB0, hT, hS, c2, s6, nI_ltI, nI_leI, nI_eq, Nat.lt_irrefl, Nat.le_refl, p_isLoan_y hQ hl, h3, h2, h]
theorem p_isPassed_0 (hQ : CQ B t M T S c) (h : NL x (T 0)) {z : Int32} : f_X7_isPassed B x z M = some (nI 0, M) := by
  obtain ⟨hC, hB0, hT, hS, hW, hc, hs, hw, hc6⟩ := id hQ
  have w0 := hW.1
  have w1 := hW.2.1
  simp (disch := omega) only [f_X7_isPassed, gK, gR, gN, gIs, bR_s, bd_s, nm_s, ck, inb_nI, and_self, ite_true, ite_false, nI_clamp, fa_lit, pk_mul, nI_add, n10, n1z, n00, eq_self, not_true_eq_false, not_false_eq_true, hC, hB0, hT, hS, p_isLoan_n hQ h]
theorem q_isLoan_y (hQ : RQ B M T S c) (hl : l < T 0) : f_X8_isLoan (B + 59) (nI l) M = some (nI 1, M) := by
  obtain ⟨hC, ht8, hn14, hW, hw, hc6⟩ := id hQ
  have w0 := hW.1
  have w1 := hW.2.1
  have h1 : ¬ T 0 ≤ l := by omega
  simp (disch := omega) only [q_isLoan hQ, nI_ltI, nI_leI, h1, Nat.not_lt_zero, ite_false]
theorem q_isLoan_n (hQ : RQ B M T S c) (h : NL x (T 0)) : f_X8_isLoan (B + 59) x M = some (nI 0, M) := by
  rw [q_isLoan hQ]
  rcases h with h | ⟨h, h2⟩
  · rw [if_pos h]
  · rw [if_neg h, if_pos h2]
theorem q_isHolder_y (hQ : RQ B M T S c) (hl : l < T 1) : f_X8_isHolder (B + 59) (nI l) M = some (nI 1, M) := by
  obtain ⟨hC, ht8, hn14, hW, hw, hc6⟩ := id hQ
  have w0 := hW.1
  have w1 := hW.2.1
  have h1 : ¬ T 1 ≤ l := by omega
  simp (disch := omega) only [q_isHolder hQ, nI_ltI, nI_leI, h1, Nat.not_lt_zero, ite_false]
theorem q_isHolder_n (hQ : RQ B M T S c) (h : NL x (T 1)) : f_X8_isHolder (B + 59) x M = some (nI 0, M) := by
  rw [q_isHolder hQ]
  rcases h with h | ⟨h, h2⟩
  · rw [if_pos h]
  · rw [if_neg h, if_pos h2]
theorem q_isBond_y (hQ : RQ B M T S c) (hl : l < T 0) (hk : k < T (12 + 7 * l)) : f_X8_isBond (B + 59) (nI l) (nI (k + 1)) M = some (nI 1, M) := by
  obtain ⟨hC, ht8, hn14, hW, hw, hc6⟩ := id hQ
  have w0 := hW.1
  have w1 := hW.2.1
  have w := hW.2.2 l hl
  have lo0 := q_loanOf hQ hl (w := 0) (by omega)
  have lo3 := q_loanOf hQ hl (w := 3) (by omega)
  have h6 := hn14 1206 (by omega)
  have h1 : ¬ k + 1 < 1 := by omega
  have h2 : ¬ T (12 + 7 * l) < k + 1 := by omega
  simp (disch := omega) only [f_X8_isBond, gK, gR, gN, gIs, bR_s, bd_s, nm_s, ck, inb_nI, and_self, ite_true, ite_false, nI_clamp, fa_lit, pk_mul, nI_add, n10, n1z, n00, eq_self, not_true_eq_false, not_false_eq_true, hC, fa_litL, wi, wiN, lo0, lo3, h6, Nat.add_zero, nI_ltI, nI_leI, nI_eq, Nat.lt_irrefl, Nat.le_refl, q_isLoan_y hQ hl, h1, h2]
theorem q_isBond_n (hQ : RQ B M T S c) (hl : l < T 0) (h : N1 x (T (12 + 7 * l))) : f_X8_isBond (B + 59) (nI l) x M = some (nI 0, M) := by
  obtain ⟨hC, ht8, hn14, hW, hw, hc6⟩ := id hQ
  have w0 := hW.1
  have w1 := hW.2.1
  have w := hW.2.2 l hl
  have lo0 := q_loanOf hQ hl (w := 0) (by omega)
  have lo3 := q_loanOf hQ hl (w := 3) (by omega)
  have h6 := hn14 1206 (by omega)
  rcases h with h | ⟨h, h2⟩
  · simp (disch := omega) only [f_X8_isBond, gK, gR, gN, gIs, bR_s, bd_s, nm_s, ck, inb_nI, and_self, ite_true, ite_false, nI_clamp, fa_lit, pk_mul, nI_add, n10, n1z, n00, eq_self, not_true_eq_false, not_false_eq_true, hC, fa_litL, wi, wiN, lo0, lo3, h6, Nat.add_zero, nI_ltI, nI_leI, nI_eq, Nat.lt_irrefl, Nat.le_refl, q_isLoan_y hQ hl, h]
  · simp (disch := omega) only [f_X8_isBond, gK, gR, gN, gIs, bR_s, bd_s, nm_s, ck, inb_nI, and_self, ite_true, ite_false, nI_clamp, fa_lit, pk_mul, nI_add, n10, n1z, n00, eq_self, not_true_eq_false, not_false_eq_true, hC, fa_litL, wi, wiN, lo0, lo3, h6, Nat.add_zero, nI_ltI, nI_leI, nI_eq, Nat.lt_irrefl, Nat.le_refl, q_isLoan_y hQ hl, h, h2]
theorem q_isBond_0 (hQ : RQ B M T S c) (h : NL x (T 0)) {z : Int32} : f_X8_isBond (B + 59) x z M = some (nI 0, M) := by
  obtain ⟨hC, ht8, hn14, hW, hw, hc6⟩ := id hQ
  have w0 := hW.1
  have w1 := hW.2.1
  simp (disch := omega) only [f_X8_isBond, gK, gR, gN, gIs, bR_s, bd_s, nm_s, ck, inb_nI, and_self, ite_true, ite_false, nI_clamp, fa_lit, pk_mul, nI_add, n10, n1z, n00, eq_self, not_true_eq_false, not_false_eq_true, hC, fa_litL, wi, wiN, Nat.add_zero, nI_ltI, nI_leI, nI_eq, Nat.lt_irrefl, Nat.le_refl, q_isLoan_n hQ h]
theorem q_isYear_y (hQ : RQ B M T S c) (hl : l < T 0) (hk : k < T (12 + 7 * l + 3)) : f_X8_isYear (B + 59) (nI l) (nI (k + 1)) M = some (nI 1, M) := by
  obtain ⟨hC, ht8, hn14, hW, hw, hc6⟩ := id hQ
  have w0 := hW.1
  have w1 := hW.2.1
  have w := hW.2.2 l hl
  have lo0 := q_loanOf hQ hl (w := 0) (by omega)
  have lo3 := q_loanOf hQ hl (w := 3) (by omega)
  have h6 := hn14 1206 (by omega)
  have h1 : ¬ k + 1 < 1 := by omega
  have h2 : ¬ T (12 + 7 * l + 3) < k + 1 := by omega
  simp (disch := omega) only [f_X8_isYear, gK, gR, gN, gIs, bR_s, bd_s, nm_s, ck, inb_nI, and_self, ite_true, ite_false, nI_clamp, fa_lit, pk_mul, nI_add, n10, n1z, n00, eq_self, not_true_eq_false, not_false_eq_true, hC, fa_litL, wi, wiN, lo0, lo3, h6, Nat.add_zero, nI_ltI, nI_leI, nI_eq, Nat.lt_irrefl, Nat.le_refl, q_isLoan_y hQ hl, h1, h2]
theorem q_isYear_n (hQ : RQ B M T S c) (hl : l < T 0) (h : N1 x (T (12 + 7 * l + 3))) : f_X8_isYear (B + 59) (nI l) x M = some (nI 0, M) := by
  obtain ⟨hC, ht8, hn14, hW, hw, hc6⟩ := id hQ
  have w0 := hW.1
  have w1 := hW.2.1
  have w := hW.2.2 l hl
  have lo0 := q_loanOf hQ hl (w := 0) (by omega)
  have lo3 := q_loanOf hQ hl (w := 3) (by omega)
  have h6 := hn14 1206 (by omega)
  rcases h with h | ⟨h, h2⟩
  · simp (disch := omega) only [f_X8_isYear, gK, gR, gN, gIs, bR_s, bd_s, nm_s, ck, inb_nI, and_self, ite_true, ite_false, nI_clamp, fa_lit, pk_mul, nI_add, n10, n1z, n00, eq_self, not_true_eq_false, not_false_eq_true, hC, fa_litL, wi, wiN, lo0, lo3, h6, Nat.add_zero, nI_ltI, nI_leI, nI_eq, Nat.lt_irrefl, Nat.le_refl, q_isLoan_y hQ hl, h]
  · simp (disch := omega) only [f_X8_isYear, gK, gR, gN, gIs, bR_s, bd_s, nm_s, ck, inb_nI, and_self, ite_true, ite_false, nI_clamp, fa_lit, pk_mul, nI_add, n10, n1z, n00, eq_self, not_true_eq_false, not_false_eq_true, hC, fa_litL, wi, wiN, lo0, lo3, h6, Nat.add_zero, nI_ltI, nI_leI, nI_eq, Nat.lt_irrefl, Nat.le_refl, q_isLoan_y hQ hl, h, h2]
theorem q_isYear_0 (hQ : RQ B M T S c) (h : NL x (T 0)) {z : Int32} : f_X8_isYear (B + 59) x z M = some (nI 0, M) := by
  obtain ⟨hC, ht8, hn14, hW, hw, hc6⟩ := id hQ
  have w0 := hW.1
  have w1 := hW.2.1
  simp (disch := omega) only [f_X8_isYear, gK, gR, gN, gIs, bR_s, bd_s, nm_s, ck, inb_nI, and_self, ite_true, ite_false, nI_clamp, fa_lit, pk_mul, nI_add, n10, n1z, n00, eq_self, not_true_eq_false, not_false_eq_true, hC, fa_litL, wi, wiN, Nat.add_zero, nI_ltI, nI_leI, nI_eq, Nat.lt_irrefl, Nat.le_refl, q_isLoan_n hQ h]
theorem q_isToCome_y (hQ : RQ B M T S c) (hl : l < T 0) (hk : k < T (12 + 7 * l + 3)) (hy : S 1206 < k + 1) : f_X8_isToCome (B + 59) (nI l) (nI (k + 1)) M = some (nI 1, M) := by
  obtain ⟨hC, ht8, hn14, hW, hw, hc6⟩ := id hQ
  have w0 := hW.1
  have w1 := hW.2.1
  have w := hW.2.2 l hl
  have lo0 := q_loanOf hQ hl (w := 0) (by omega)
  have lo3 := q_loanOf hQ hl (w := 3) (by omega)
  have h6 := hn14 1206 (by omega)
  have w6 := hw.1
  have h1 : ¬ k + 1 < 1 := by omega
  have h2 : ¬ T (12 + 7 * l + 3) < k + 1 := by omega
  have h3 : ¬ k + 1 ≤ S 1206 := by omega
  simp (disch := omega) only [f_X8_isToCome, gK, gR, gN, gIs, bR_s, bd_s, nm_s, ck, inb_nI, and_self, ite_true, ite_false, nI_clamp, fa_lit, pk_mul, nI_add, n10, n1z, n00, eq_self, not_true_eq_false, not_false_eq_true, hC, fa_litL, wi, wiN, lo0, lo3, h6, Nat.add_zero, nI_ltI, nI_leI, nI_eq, Nat.lt_irrefl, Nat.le_refl, q_isYear_y hQ hl hk, h1, h2, h3]
theorem q_isToCome_m (hQ : RQ B M T S c) (hl : l < T 0) (hk : k < T (12 + 7 * l + 3)) (hy : k + 1 ≤ S 1206) : f_X8_isToCome (B + 59) (nI l) (nI (k + 1)) M = some (nI 0, M) := by
  obtain ⟨hC, ht8, hn14, hW, hw, hc6⟩ := id hQ
  have w0 := hW.1
  have w1 := hW.2.1
  have w := hW.2.2 l hl
  have lo0 := q_loanOf hQ hl (w := 0) (by omega)
  have lo3 := q_loanOf hQ hl (w := 3) (by omega)
  have h6 := hn14 1206 (by omega)
  have w6 := hw.1
  have h1 : ¬ k + 1 < 1 := by omega
  have h2 : ¬ T (12 + 7 * l + 3) < k + 1 := by omega
  simp (disch := omega) only [f_X8_isToCome, gK, gR, gN, gIs, bR_s, bd_s, nm_s, ck, inb_nI, and_self, ite_true, ite_false, nI_clamp, fa_lit, pk_mul, nI_add, n10, n1z, n00, eq_self, not_true_eq_false, not_false_eq_true, hC, fa_litL, wi, wiN, lo0, lo3, h6, Nat.add_zero, nI_ltI, nI_leI, nI_eq, Nat.lt_irrefl, Nat.le_refl, q_isYear_y hQ hl hk, h1, h2, hy]
theorem q_isToCome_n (hQ : RQ B M T S c) (hl : l < T 0) (h : N1 x (T (12 + 7 * l + 3))) : f_X8_isToCome (B + 59) (nI l) x M = some (nI 0, M) := by
  obtain ⟨hC, ht8, hn14, hW, hw, hc6⟩ := id hQ
  have w0 := hW.1
  have w1 := hW.2.1
  simp (disch := omega) only [f_X8_isToCome, gK, gR, gN, gIs, bR_s, bd_s, nm_s, ck, inb_nI, and_self, ite_true, ite_false, nI_clamp, fa_lit, pk_mul, nI_add, n10, n1z, n00, eq_self, not_true_eq_false, not_false_eq_true, hC, q_isYear_n hQ hl h]
theorem q_isToCome_0 (hQ : RQ B M T S c) (h : NL x (T 0)) {z : Int32} : f_X8_isToCome (B + 59) x z M = some (nI 0, M) := by
  obtain ⟨hC, ht8, hn14, hW, hw, hc6⟩ := id hQ
  have w0 := hW.1
  have w1 := hW.2.1
  simp (disch := omega) only [f_X8_isToCome, gK, gR, gN, gIs, bR_s, bd_s, nm_s, ck, inb_nI, and_self, ite_true, ite_false, nI_clamp, fa_lit, pk_mul, nI_add, n10, n1z, n00, eq_self, not_true_eq_false, not_false_eq_true, hC, q_isYear_0 hQ h]
theorem q_isPassed_y (hQ : RQ B M T S c) (hl : l < T 0) (hk : k < T (12 + 7 * l + 3)) (hy : k + 1 ≤ S 1206) : f_X8_isPassed (B + 59) (nI l) (nI (k + 1)) M = some (nI 1, M) := by
  obtain ⟨hC, ht8, hn14, hW, hw, hc6⟩ := id hQ
  have w0 := hW.1
  have w1 := hW.2.1
  have w := hW.2.2 l hl
  have lo0 := q_loanOf hQ hl (w := 0) (by omega)
  have lo3 := q_loanOf hQ hl (w := 3) (by omega)
  have h6 := hn14 1206 (by omega)
  have w6 := hw.1
  have h1 : ¬ k + 1 < 1 := by omega
  have h2 : ¬ T (12 + 7 * l + 3) < k + 1 := by omega
  have h3 : ¬ S 1206 < k + 1 := by omega
  simp (disch := omega) only [f_X8_isPassed, gK, gR, gN, gIs, bR_s, bd_s, nm_s, ck, inb_nI, and_self, ite_true, ite_false, nI_clamp, fa_lit, pk_mul, nI_add, n10, n1z, n00, eq_self, not_true_eq_false, not_false_eq_true, hC, fa_litL, wi, wiN, lo0, lo3, h6, Nat.add_zero, nI_ltI, nI_leI, nI_eq, Nat.lt_irrefl, Nat.le_refl, q_isYear_y hQ hl hk, h1, h2, h3]
theorem q_isPassed_m (hQ : RQ B M T S c) (hl : l < T 0) (hk : k < T (12 + 7 * l + 3)) (hy : S 1206 < k + 1) : f_X8_isPassed (B + 59) (nI l) (nI (k + 1)) M = some (nI 0, M) := by
  obtain ⟨hC, ht8, hn14, hW, hw, hc6⟩ := id hQ
  have w0 := hW.1
  have w1 := hW.2.1
  have w := hW.2.2 l hl
  have lo0 := q_loanOf hQ hl (w := 0) (by omega)
  have lo3 := q_loanOf hQ hl (w := 3) (by omega)
  have h6 := hn14 1206 (by omega)
  have w6 := hw.1
  have h1 : ¬ k + 1 < 1 := by omega
  have h2 : ¬ T (12 + 7 * l + 3) < k + 1 := by omega
  simp (disch := omega) only [f_X8_isPassed, gK, gR, gN, gIs, bR_s, bd_s, nm_s, ck, inb_nI, and_self, ite_true, ite_false, nI_clamp, fa_lit, pk_mul, nI_add, n10, n1z, n00, eq_self, not_true_eq_false, not_false_eq_true, hC, fa_litL, wi, wiN, lo0, lo3, h6, Nat.add_zero, nI_ltI, nI_leI, nI_eq, Nat.lt_irrefl, Nat.le_refl, q_isYear_y hQ hl hk, h1, h2, hy]
theorem q_isPassed_n (hQ : RQ B M T S c) (hl : l < T 0) (h : N1 x (T (12 + 7 * l + 3))) : f_X8_isPassed (B + 59) (nI l) x M = some (nI 0, M) := by
  obtain ⟨hC, ht8, hn14, hW, hw, hc6⟩ := id hQ
  have w0 := hW.1
  have w1 := hW.2.1
  simp (disch := omega) only [f_X8_isPassed, gK, gR, gN, gIs, bR_s, bd_s, nm_s, ck, inb_nI, and_self, ite_true, ite_false, nI_clamp, fa_lit, pk_mul, nI_add, n10, n1z, n00, eq_self, not_true_eq_false, not_false_eq_true, hC, q_isYear_n hQ hl h]
theorem q_isPassed_0 (hQ : RQ B M T S c) (h : NL x (T 0)) {z : Int32} : f_X8_isPassed (B + 59) x z M = some (nI 0, M) := by
  obtain ⟨hC, ht8, hn14, hW, hw, hc6⟩ := id hQ
  have w0 := hW.1
  have w1 := hW.2.1
  simp (disch := omega) only [f_X8_isPassed, gK, gR, gN, gIs, bR_s, bd_s, nm_s, ck, inb_nI, and_self, ite_true, ite_false, nI_clamp, fa_lit, pk_mul, nI_add, n10, n1z, n00, eq_self, not_true_eq_false, not_false_eq_true, hC, q_isYear_0 hQ h]
theorem p_isOver (hQ : CQ B t M T S c) (hl : l < T 0) : f_X7_isOver B (nI l) M = some (if S 1206 < T (12 + 7 * l + 3) then nI 0 else nI 1, M) := by
  obtain ⟨hC, hB0, hT, hS, hW, hc, hs, hw, hc6⟩ := id hQ
  have w0 := hW.1
  have w1 := hW.2.1
  have w := hW.2.2 l hl
  have c2 := hc.2.2.1 l hl
  have s6 := hs.1
  have w6 := hw.1
  simp (disch := omega) only [f_X7_isOver, gK, gR, gN, gIs, bR_s, bd_s, nm_s, ck, inb_nI, and_self, ite_true, ite_false, nI_clamp, fa_lit, pk_mul, nI_add, n10, n1z, n00, eq_self, not_true_eq_false, not_false_eq_true, hC, hB0, hT, hS, c2, s6, nI_ltI]
  split <;> rfl
theorem q_priceOf (hQ : RQ B M T S c) (hl : l < T 0) (hk : k < T (12 + 7 * l + 3)) : f_X8_priceOf (B + 59) (nI l) (nI (k + 1)) M = some (nI (prS T S l (k + 1)), M) := by
  obtain ⟨hC, ht8, hn14, hW, hw, hc6⟩ := id hQ
  have w0 := hW.1
  have w1 := hW.2.1
  have w := hW.2.2 l hl
  have v := (hw.2.2.2.1 l hl (k + 1) (by omega) (by omega)).1
  have lo1 := q_loanOf hQ hl (w := 1) (by omega)
  have h6 := hn14 (1215 + 21 * l + (k + 1)) (by omega)
  simp (disch := omega) only [f_X8_priceOf, gK, gR, gN, gIs, bR_s, bd_s, nm_s, ck, inb_nI, and_self, ite_true, ite_false, nI_clamp, fa_lit, pk_mul, nI_add, n10, n1z, n00, eq_self, not_true_eq_false, not_false_eq_true, hC, lo1, h6, nI_eq, prS]
  by_cases h : S (1215 + 21 * l + (k + 1)) = 0
  · simp only [h, not_true_eq_false, ite_true, ite_false]
  · simp only [h, not_false_eq_true, ite_true, ite_false]
theorem q_prizeOf (hQ : RQ B M T S c) (hl : l < T 0) {r : Nat} (hr : r < 2 ^ 31) : f_X8_prizeOf (B + 59) (nI l) (nI r) M = some (nI (if r ≤ 9 then T (40 + 10 * l + r) else 0), M) := by
  obtain ⟨hC, ht8, hn14, hW, hw, hc6⟩ := id hQ
  have w0 := hW.1
  have w1 := hW.2.1
  simp (disch := omega) only [f_X8_prizeOf, gK, gR, gN, gIs, bR_s, bd_s, nm_s, ck, inb_nI, and_self, ite_true, ite_false, nI_clamp, fa_lit, pk_mul, nI_add, n10, n1z, n00, eq_self, not_true_eq_false, not_false_eq_true, hC, nI_ltI]
  by_cases h : r ≤ 9
  · have h6 := ht8 (40 + 10 * l + r) (by omega)
    have h7 : ¬ 9 < r := by omega
    simp (disch := omega) only [h, h7, h6, gK, gR, gN, gIs, bR_s, bd_s, nm_s, ck, inb_nI, and_self, ite_true, ite_false, nI_clamp, fa_lit, pk_mul, nI_add, n10, n1z, n00, eq_self, not_true_eq_false, not_false_eq_true]
  · have h7 : 9 < r := by omega
    simp only [h, h7, ite_true, ite_false]
theorem q_owedFor (hQ : RQ B M T S c) (hl : l < T 0) (hk : k < T (12 + 7 * l)) : f_X8_owedFor (B + 59) (nI l) (nI (k + 1)) M = some (nI (dsS T S l k), M) := by
  obtain ⟨hC, ht8, hn14, hW, hw, hc6⟩ := id hQ
  have w0 := hW.1
  have w1 := hW.2.1
  have w := hW.2.2 l hl
  have v2 := hw.2.2.2.2.1 l hl k hk
  have lo1 := q_loanOf hQ hl (w := 1) (by omega)
  have h6 := hn14 (720 + (60 * l + k)) (by omega)
  rw [← Nat.add_assoc] at h6
  have hp : S (720 + 60 * l + k) ≤ 60 := by
    by_cases h : S (60 * l + k) = 0
    · have := v2.2.2.2.2.2.1 h; omega
    · exact (v2.2.2.2.2.2.2.1 h).2
  simp (disch := omega) only [f_X8_owedFor, gK, gR, gN, gIs, bR_s, bd_s, nm_s, ck, inb_nI, and_self, ite_true, ite_false, nI_clamp, fa_lit, pk_mul, nI_add, n10, n1z, n00, eq_self, not_true_eq_false, not_false_eq_true, hC, lo1, p_bondAt, ← Nat.add_assoc, h6, q_prizeOf hQ hl, dsS]
theorem p_prizeOf (hQ : CQ B t M T S c) (hl : l < T 0) {r : Nat} (h1 : 1 ≤ r) (hr : r < 2 ^ 31) : f_X6_prizeOf t (nI l) (nI r) M = some (nI (if r ≤ 9 then T (40 + 10 * l + r) else 0), M) := by
  obtain ⟨hC, hB0, hT, hS, hW, hc, hs, hw, hc6⟩ := id hQ
  have w0 := hW.1
  have w1 := hW.2.1
  have h0 : ¬ r < 1 := by omega
  simp (disch := omega) only [f_X6_prizeOf, gK, gR, gN, gIs, bR_s, bd_s, nm_s, ck, inb_nI, and_self, ite_true, ite_false, nI_clamp, fa_lit, pk_mul, nI_add, n10, n1z, n00, eq_self, not_true_eq_false, not_false_eq_true, hC, hB0, hT, hS, nI_ltI, h0]
  by_cases h : r ≤ 9
  · have h6 := hc.2.2.2 l hl r h1 h
    have h7 : ¬ 9 < r := by omega
    simp (disch := omega) only [h, h7, h6, p_rankOf, gK, gR, gN, gIs, bR_s, bd_s, nm_s, ck, inb_nI, and_self, ite_true, ite_false, nI_clamp, fa_lit, pk_mul, nI_add, n10, n1z, n00, eq_self, not_true_eq_false, not_false_eq_true, hC, hB0, hT, hS]
  · have h7 : 9 < r := by omega
    simp only [h, h7, ite_true, ite_false]
theorem p_drawnSum (hQ : CQ B t M T S c) (hl : l < T 0) (hk : k < T (12 + 7 * l)) (hn : S (60 * l + k) ≠ 0) : f_X7_drawnSum B (nI l) (nI (60 * l + k)) M = some (nI (dsS T S l k), M) := by
  obtain ⟨hC, hB0, hT, hS, hW, hc, hs, hw, hc6⟩ := id hQ
  have w0 := hW.1
  have w1 := hW.2.1
  have w := hW.2.2 l hl
  have c2 := hc.2.2.1 l hl
  have s3 := hs.2.2.2.2 l hl k hk
  have v2 := (hw.2.2.2.2.1 l hl k hk).2.2.2.2.2.2.1 hn
  simp (disch := omega) only [f_X7_drawnSum, gK, gR, gN, gIs, bR_s, bd_s, nm_s, ck, inb_nI, and_self, ite_true, ite_false, nI_clamp, fa_lit, pk_mul, nI_add, n10, n1z, n00, eq_self, not_true_eq_false, not_false_eq_true, hC, hB0, hT, hS, c2, s3, p_prizeOf hQ hl v2.1, dsS]
end IS
