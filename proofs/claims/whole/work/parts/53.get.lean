section GET
variable {B t a l c : Nat} {T S : Nat → Nat} {M : Mm} {x : Int32}
theorem p_spotOf (l k : Nat) (M : Mm) : f_X7_spotOf (nI l) (nI (k + 1)) M = some (nI (60 * l + k), M) := by
  simp only [f_X7_spotOf, fa_lit, pk_mul, nI_add]
  rw [pk_sub (by omega)]
  congr 3
  omega
theorem p_cellOf (l y : Nat) (M : Mm) : f_X7_cellOf (nI l) (nI y) M = some (nI (21 * l + y), M) := by
  simp only [f_X7_cellOf, fa_lit, pk_mul, nI_add]
  congr 3
  omega
theorem p_rankOf (l r : Nat) (M : Mm) : f_X6_rankOf (nI l) (nI r) M = some (nI (10 * l + r), M) := by
  simp only [f_X6_rankOf, fa_lit, pk_mul, nI_add]
  congr 3
  omega
theorem p_bondAt (l k : Nat) (M : Mm) : f_X8_bondAt (nI l) (nI (k + 1)) M = some (nI (60 * l + k), M) := by
  simp only [f_X8_bondAt, fa_lit, pk_mul, nI_add]
  rw [pk_sub (by omega)]
  congr 3
theorem p_isLoan (hQ : CQ B t M T S c) : f_X7_isLoan B x M = some (if x < nI 0 then nI 0 else if nI (T 0) ≤ x then nI 0 else nI 1, M) := by
  obtain ⟨hC, hB0, hT, hS, hW, hc, hs, hw, hc6⟩ := id hQ
  have w0 := hW.1
  have w1 := hW.2.1
  simp only [f_X7_isLoan, gK, gR, gN, gIs, bR_s, bd_s, nm_s, ck, inb_nI, and_self, ite_true, ite_false, nI_clamp, fa_lit, pk_mul, nI_add, n10, n1z, n00, eq_self, not_true_eq_false, not_false_eq_true, hC, hB0, hT, hS, hc.1]
  split
  · rfl
  · split <;> rfl
theorem p_isHolder (hQ : CQ B t M T S c) : f_X7_isHolder B x M = some (if x < nI 0 then nI 0 else if nI (T 1) ≤ x then nI 0 else nI 1, M) := by
  obtain ⟨hC, hB0, hT, hS, hW, hc, hs, hw, hc6⟩ := id hQ
  have w0 := hW.1
  have w1 := hW.2.1
  simp only [f_X7_isHolder, gK, gR, gN, gIs, bR_s, bd_s, nm_s, ck, inb_nI, and_self, ite_true, ite_false, nI_clamp, fa_lit, pk_mul, nI_add, n10, n1z, n00, eq_self, not_true_eq_false, not_false_eq_true, hC, hB0, hT, hS, hc.2.1]
  split
  · rfl
  · split <;> rfl
theorem le_sub1 {x : Int32} {n : Nat} (hn : n < 2 ^ 31) : (if x < nI 0 then nI 0 else if nI n - nI 1 < x then nI 0 else nI 1) = (if x < nI 0 then nI 0 else if nI n ≤ x then nI 0 else nI 1) := by
  split
  · rfl
  · rename_i h
    have h1 : (nI 0).toInt = 0 := by decide
    have h2 : (nI 1).toInt = 1 := by decide
    have h3 := nI_toInt hn
    have h4 : (nI n - nI 1).toInt = n - 1 := by rw [fb_subI (by omega) (by omega)]; omega
    rw [fa_lt] at h
    by_cases hq : nI n ≤ x
    · rw [if_pos hq, if_pos (by rw [fa_lt]; rw [fa_le] at hq; omega)]
    · rw [if_neg hq, if_neg (by rw [fa_lt]; rw [fa_le] at hq; omega)]
theorem ck01 {α : Type} {a b : Prop} [Decidable a] [Decidable b] {r : Option α} {d : Decidable ((if a then nI 0 else if b then nI 0 else nI 1) = nI 0 ∨ (if a then nI 0 else if b then nI 0 else nI 1) = nI 1)} : (@ite _ ((if a then nI 0 else if b then nI 0 else nI 1) = nI 0 ∨ (if a then nI 0 else if b then nI 0 else nI 1) = nI 1) d r none) = r := by
  rw [if_pos]
  split
  · exact Or.inl rfl
  · split
    · exact Or.inl rfl
    · exact Or.inr rfl
theorem q_isLoan (hQ : RQ B M T S c) : f_X8_isLoan (B + 59) x M = some (if x < nI 0 then nI 0 else if nI (T 0) ≤ x then nI 0 else nI 1, M) := by
  obtain ⟨hC, ht8, hn14, hW, hw, hc6⟩ := id hQ
  have w0 := hW.1
  have w1 := hW.2.1
  have h0 := ht8 0 (by omega)
  simp (disch := omega) only [f_X8_isLoan, gK, gR, gN, gIs, bR_s, bd_s, nm_s, ck, inb_nI, and_self, ite_true, ite_false, nI_clamp, fa_lit, pk_mul, nI_add, n10, n1z, n00, eq_self, not_true_eq_false, not_false_eq_true, hC, h0, fa_litL, wi, ck01]
  rw [le_sub1 (by omega)]
theorem q_isHolder (hQ : RQ B M T S c) : f_X8_isHolder (B + 59) x M = some (if x < nI 0 then nI 0 else if nI (T 1) ≤ x then nI 0 else nI 1, M) := by
  obtain ⟨hC, ht8, hn14, hW, hw, hc6⟩ := id hQ
  have w0 := hW.1
  have w1 := hW.2.1
  have h0 := ht8 1 (by omega)
  simp (disch := omega) only [f_X8_isHolder, gK, gR, gN, gIs, bR_s, bd_s, nm_s, ck, inb_nI, and_self, ite_true, ite_false, nI_clamp, fa_lit, pk_mul, nI_add, n10, n1z, n00, eq_self, not_true_eq_false, not_false_eq_true, hC, h0, fa_litL, wi, ck01]
  rw [le_sub1 (by omega)]
theorem q_loanOf (hQ : RQ B M T S c) (hl : l < T 0) {w : Nat} (hw : w < 7) : f_X8_loanOf (B + 59) (nI l) (nI w) M = some (nI (T (12 + 7 * l + w)), M) := by
  obtain ⟨hC, ht8, hn14, hW, hw, hc6⟩ := id hQ
  have w0 := hW.1
  have w1 := hW.2.1
  have h0 := ht8 (12 + 7 * l + w) (by omega)
  simp (disch := omega) only [f_X8_loanOf, gK, gR, gN, gIs, bR_s, bd_s, nm_s, ck, inb_nI, and_self, ite_true, ite_false, nI_clamp, fa_lit, pk_mul, nI_add, n10, n1z, n00, eq_self, not_true_eq_false, not_false_eq_true, hC, h0]
end GET
