def fnd (P : Nat → Bool) : Nat → Nat → Option Nat
  | 0, _ => none
  | d + 1, k => if P k then some k else fnd P d (k + 1)
def ofnd (z : Int32) (q : Option Nat) : Int32 := match q with
  | some j => nI (j + 1)
  | none => z
section FND
variable {B t l c : Nat} {T S : Nat → Nat} {M : Mm}
theorem own_eq2 {a g : Nat} (ha : a < 2 ^ 31 - 1) (hg : g < 2 ^ 31 - 1) : (nI a - nI 1 = nI g - nI 1) ↔ a = g := by
  have h2 : (nI 1).toInt = 1 := by decide
  have h3 := nI_toInt (n := a) (by omega)
  have h4 := nI_toInt (n := g) (by omega)
  have h5 : (nI a - nI 1).toInt = a - 1 := by rw [fb_subI (by omega) (by omega)]; omega
  have h6 : (nI g - nI 1).toInt = g - 1 := by rw [fb_subI (by omega) (by omega)]; omega
  rw [fa_eq, h5, h6]
  omega
theorem sub_add1 (g : Nat) : nI g - nI 1 + nI 1 = nI g := Int32.sub_add_cancel _ _
theorem p_standing_lp (hQ : CQ B t M T S c) (hl : l < T 0) {g : Nat} (hg : g < 2 ^ 31 - 1) : ∀ (d k n : Nat), k + d = T (12 + 7 * l) → d < n → f_X7_standing_27 n B (nI l) (nI g - nI 1) (nI (k + 1)) M = some (ofnd (-nI 2) (fnd (fun k => decide (S (60 * l + k) = 0) && decide (S (240 + 60 * l + k) = g)) d k), M) := by
  obtain ⟨hC, hB0, hT, hS, hW, hc, hs, hw, hc6⟩ := id hQ
  have w0 := hW.1
  have w1 := hW.2.1
  have w := hW.2.2 l hl
  have c2 := hc.2.2.1 l hl
  have s2 := hs.2.2.2.2 l hl
  have v2 := hw.2.2.2.2.1 l hl
  have y60 := hw.1
  intro d
  induction d with
  | zero =>
    intro k n hk hn
    obtain ⟨n, rfl⟩ : ∃ m, n = m + 1 := ⟨n - 1, by omega⟩
    have hk : k = T (12 + 7 * l) := by omega
    subst hk
    simp (disch := omega) only [f_X7_standing_27, gK, gR, gN, gIs, bR_s, bd_s, nm_s, ck, inb_nI, and_self, ite_true, ite_false, nI_clamp, fa_lit, pk_mul, nI_add, n10, n1z, n00, eq_self, not_true_eq_false, not_false_eq_true, hC, hB0, hT, hS, c2, p_spotOf, nI_ltI, nI_leI, nI_eq, own_eq2, sub_add1, Nat.add_zero, Nat.lt_succ_self, fnd, ofnd]
  | succ d ih =>
    intro k n hk hn
    obtain ⟨n, rfl⟩ : ∃ m, n = m + 1 := ⟨n - 1, by omega⟩
    have hk2 : ¬ T (12 + 7 * l) < k + 1 := by omega
    have v3 := v2 k (by omega)
    have hp : S (720 + 60 * l + k) ≤ 60 := by
      by_cases h : S (60 * l + k) = 0
      · have := v3.2.2.2.2.2.1 h; omega
      · exact (v3.2.2.2.2.2.2.1 h).2
    have s3 := s2 k (by omega)
    have ih := ih (k + 1) n (by omega) (by omega)
    simp (disch := omega) only [f_X7_standing_27, gK, gR, gN, gIs, bR_s, bd_s, nm_s, ck, inb_nI, and_self, ite_true, ite_false, nI_clamp, fa_lit, pk_mul, nI_add, n10, n1z, n00, eq_self, not_true_eq_false, not_false_eq_true, hC, hB0, hT, hS, c2, p_spotOf, nI_ltI, nI_leI, nI_eq, own_eq2, sub_add1, Nat.add_zero, hk2, s3, fnd]
    by_cases hq : S (60 * l + k) = 0
    · by_cases hr : S (240 + 60 * l + k) = g
      · simp only [hq, hr, decide_true, decide_false, Bool.and_self, Bool.and_false, Bool.false_and, Bool.true_and, Bool.and_true, ite_true, ite_false, not_true_eq_false, not_false_eq_true, Bool.false_eq_true]
        rfl
      · simp only [hq, hr, decide_true, decide_false, Bool.and_self, Bool.and_false, Bool.false_and, Bool.true_and, Bool.and_true, ite_true, ite_false, not_true_eq_false, not_false_eq_true, Bool.false_eq_true]
        exact ih
    · by_cases hr : S (240 + 60 * l + k) = g
      · simp only [hq, hr, decide_true, decide_false, Bool.and_self, Bool.and_false, Bool.false_and, Bool.true_and, Bool.and_true, ite_true, ite_false, not_true_eq_false, not_false_eq_true, Bool.false_eq_true]
        exact ih
      · simp only [hq, hr, decide_true, decide_false, Bool.and_self, Bool.and_false, Bool.false_and, Bool.true_and, Bool.and_true, ite_true, ite_false, not_true_eq_false, not_false_eq_true, Bool.false_eq_true]
        exact ih
theorem q_standing_lp (hQ : RQ B M T S c) (hl : l < T 0) {g : Nat} (hg : g < 2 ^ 31 - 1) : ∀ (d k n : Nat), k + d = T (12 + 7 * l) → d < n → f_X8_standing_32 n (B + 59) (nI l) (nI g - nI 1) (nI (k + 1)) M = some (ofnd (-nI 2) (fnd (fun k => decide (S (60 * l + k) = 0) && decide (S (240 + 60 * l + k) = g)) d k), M) := by
  obtain ⟨hC, ht8, hn14, hW, hw, hc6⟩ := id hQ
  have w0 := hW.1
  have w1 := hW.2.1
  have w := hW.2.2 l hl
  have v2 := hw.2.2.2.2.1 l hl
  have y60 := hw.1
  intro d
  induction d with
  | zero =>
    intro k n hk hn
    obtain ⟨n, rfl⟩ : ∃ m, n = m + 1 := ⟨n - 1, by omega⟩
    have hk : k = T (12 + 7 * l) := by omega
    subst hk
    simp (disch := omega) only [f_X8_standing_32, gK, gR, gN, gIs, bR_s, bd_s, nm_s, ck, inb_nI, and_self, ite_true, ite_false, nI_clamp, fa_lit, pk_mul, nI_add, n10, n1z, n00, eq_self, not_true_eq_false, not_false_eq_true, hC, q_loanOf hQ hl (w := 0) (by omega), p_bondAt, nI_ltI, nI_leI, nI_eq, own_eq2, sub_add1, Nat.add_zero, Nat.lt_succ_self, fnd, ofnd]
  | succ d ih =>
    intro k n hk hn
    obtain ⟨n, rfl⟩ : ∃ m, n = m + 1 := ⟨n - 1, by omega⟩
    have hk2 : ¬ T (12 + 7 * l) < k + 1 := by omega
    have v3 := v2 k (by omega)
    have hp : S (720 + 60 * l + k) ≤ 60 := by
      by_cases h : S (60 * l + k) = 0
      · have := v3.2.2.2.2.2.1 h; omega
      · exact (v3.2.2.2.2.2.2.1 h).2
    have n0 := hn14 (60 * l + k) (by omega)
    have n1 := hn14 (240 + (60 * l + k)) (by omega)
    have n2 := hn14 (480 + (60 * l + k)) (by omega)
    have n3 := hn14 (720 + (60 * l + k)) (by omega)
    rw [← Nat.add_assoc] at n1 n2 n3
    have ih := ih (k + 1) n (by omega) (by omega)
    simp (disch := omega) only [f_X8_standing_32, gK, gR, gN, gIs, bR_s, bd_s, nm_s, ck, inb_nI, and_self, ite_true, ite_false, nI_clamp, fa_lit, pk_mul, nI_add, n10, n1z, n00, eq_self, not_true_eq_false, not_false_eq_true, hC, q_loanOf hQ hl (w := 0) (by omega), p_bondAt, nI_ltI, nI_leI, nI_eq, own_eq2, sub_add1, Nat.add_zero, hk2, n0, n1, n2, n3, Nat.zero_add, ← Nat.add_assoc, fnd]
    by_cases hq : S (60 * l + k) = 0
    · by_cases hr : S (240 + 60 * l + k) = g
      · simp only [hq, hr, decide_true, decide_false, Bool.and_self, Bool.and_false, Bool.false_and, Bool.true_and, Bool.and_true, ite_true, ite_false, not_true_eq_false, not_false_eq_true, Bool.false_eq_true]
        rfl
      · simp only [hq, hr, decide_true, decide_false, Bool.and_self, Bool.and_false, Bool.false_and, Bool.true_and, Bool.and_true, ite_true, ite_false, not_true_eq_false, not_false_eq_true, Bool.false_eq_true]
        exact ih
    · by_cases hr : S (240 + 60 * l + k) = g
      · simp only [hq, hr, decide_true, decide_false, Bool.and_self, Bool.and_false, Bool.false_and, Bool.true_and, Bool.and_true, ite_true, ite_false, not_true_eq_false, not_false_eq_true, Bool.false_eq_true]
        exact ih
      · simp only [hq, hr, decide_true, decide_false, Bool.and_self, Bool.and_false, Bool.false_and, Bool.true_and, Bool.and_true, ite_true, ite_false, not_true_eq_false, not_false_eq_true, Bool.false_eq_true]
        exact ih
theorem p_drawnAs_lp (hQ : CQ B t M T S c) (hl : l < T 0) {y r : Nat} (hy : y < 2 ^ 31) (hr : r < 2 ^ 31) : ∀ (d k n : Nat), k + d = T (12 + 7 * l) → d < n → f_X5_drawnAs_3 n (B + 15) t (nI l) (nI y) (nI r) (nI (k + 1)) M = some (ofnd (nI 0) (fnd (fun k => decide (S (480 + 60 * l + k) = y) && decide (S (720 + 60 * l + k) = r)) d k), M) := by
  obtain ⟨hC, hB0, hT, hS, hW, hc, hs, hw, hc6⟩ := id hQ
  have w0 := hW.1
  have w1 := hW.2.1
  have w := hW.2.2 l hl
  have c2 := hc.2.2.1 l hl
  have s2 := hs.2.2.2.2 l hl
  have v2 := hw.2.2.2.2.1 l hl
  have y60 := hw.1
  intro d
  induction d with
  | zero =>
    intro k n hk hn
    obtain ⟨n, rfl⟩ : ∃ m, n = m + 1 := ⟨n - 1, by omega⟩
    have hk : k = T (12 + 7 * l) := by omega
    subst hk
    simp (disch := omega) only [f_X5_drawnAs_3, gK, gR, gN, gIs, bR_s, bd_s, nm_s, ck, inb_nI, and_self, ite_true, ite_false, nI_clamp, fa_lit, pk_mul, nI_add, n10, n1z, n00, eq_self, not_true_eq_false, not_false_eq_true, hC, hB0, hT, hS, c2, p_spotOf, nI_ltI, nI_leI, nI_eq, own_eq2, sub_add1, Nat.add_zero, Nat.lt_succ_self, fnd, ofnd]
  | succ d ih =>
    intro k n hk hn
    obtain ⟨n, rfl⟩ : ∃ m, n = m + 1 := ⟨n - 1, by omega⟩
    have hk2 : ¬ T (12 + 7 * l) < k + 1 := by omega
    have v3 := v2 k (by omega)
    have hp : S (720 + 60 * l + k) ≤ 60 := by
      by_cases h : S (60 * l + k) = 0
      · have := v3.2.2.2.2.2.1 h; omega
      · exact (v3.2.2.2.2.2.2.1 h).2
    have s3 := s2 k (by omega)
    have ih := ih (k + 1) n (by omega) (by omega)
    simp (disch := omega) only [f_X5_drawnAs_3, gK, gR, gN, gIs, bR_s, bd_s, nm_s, ck, inb_nI, and_self, ite_true, ite_false, nI_clamp, fa_lit, pk_mul, nI_add, n10, n1z, n00, eq_self, not_true_eq_false, not_false_eq_true, hC, hB0, hT, hS, c2, p_spotOf, nI_ltI, nI_leI, nI_eq, own_eq2, sub_add1, Nat.add_zero, hk2, s3, fnd]
    by_cases hq : S (480 + 60 * l + k) = y
    · by_cases hr : S (720 + 60 * l + k) = r
      · simp only [hq, hr, decide_true, decide_false, Bool.and_self, Bool.and_false, Bool.false_and, Bool.true_and, Bool.and_true, ite_true, ite_false, not_true_eq_false, not_false_eq_true, Bool.false_eq_true]
        rfl
      · simp only [hq, hr, decide_true, decide_false, Bool.and_self, Bool.and_false, Bool.false_and, Bool.true_and, Bool.and_true, ite_true, ite_false, not_true_eq_false, not_false_eq_true, Bool.false_eq_true]
        exact ih
    · by_cases hr : S (720 + 60 * l + k) = r
      · simp only [hq, hr, decide_true, decide_false, Bool.and_self, Bool.and_false, Bool.false_and, Bool.true_and, Bool.and_true, ite_true, ite_false, not_true_eq_false, not_false_eq_true, Bool.false_eq_true]
        exact ih
      · simp only [hq, hr, decide_true, decide_false, Bool.and_self, Bool.and_false, Bool.false_and, Bool.true_and, Bool.and_true, ite_true, ite_false, not_true_eq_false, not_false_eq_true, Bool.false_eq_true]
        exact ih
theorem q_inLot_lp (hQ : RQ B M T S c) (hl : l < T 0) {y r : Nat} (hy : y < 2 ^ 31) (hr : r < 2 ^ 31) : ∀ (d k n : Nat), k + d = T (12 + 7 * l) → d < n → f_X8_inLot_3 n (B + 59) (nI l) (nI y) (nI r) (nI (k + 1)) M = some (ofnd (-nI 1) (fnd (fun k => decide (S (480 + 60 * l + k) = y) && decide (S (720 + 60 * l + k) = r)) d k), M) := by
  obtain ⟨hC, ht8, hn14, hW, hw, hc6⟩ := id hQ
  have w0 := hW.1
  have w1 := hW.2.1
  have w := hW.2.2 l hl
  have v2 := hw.2.2.2.2.1 l hl
  have y60 := hw.1
  intro d
  induction d with
  | zero =>
    intro k n hk hn
    obtain ⟨n, rfl⟩ : ∃ m, n = m + 1 := ⟨n - 1, by omega⟩
    have hk : k = T (12 + 7 * l) := by omega
    subst hk
    simp (disch := omega) only [f_X8_inLot_3, gK, gR, gN, gIs, bR_s, bd_s, nm_s, ck, inb_nI, and_self, ite_true, ite_false, nI_clamp, fa_lit, pk_mul, nI_add, n10, n1z, n00, eq_self, not_true_eq_false, not_false_eq_true, hC, q_loanOf hQ hl (w := 0) (by omega), p_bondAt, nI_ltI, nI_leI, nI_eq, own_eq2, sub_add1, Nat.add_zero, Nat.lt_succ_self, fnd, ofnd]
  | succ d ih =>
    intro k n hk hn
    obtain ⟨n, rfl⟩ : ∃ m, n = m + 1 := ⟨n - 1, by omega⟩
    have hk2 : ¬ T (12 + 7 * l) < k + 1 := by omega
    have v3 := v2 k (by omega)
    have hp : S (720 + 60 * l + k) ≤ 60 := by
      by_cases h : S (60 * l + k) = 0
      · have := v3.2.2.2.2.2.1 h; omega
      · exact (v3.2.2.2.2.2.2.1 h).2
    have n0 := hn14 (60 * l + k) (by omega)
    have n1 := hn14 (240 + (60 * l + k)) (by omega)
    have n2 := hn14 (480 + (60 * l + k)) (by omega)
    have n3 := hn14 (720 + (60 * l + k)) (by omega)
    rw [← Nat.add_assoc] at n1 n2 n3
    have ih := ih (k + 1) n (by omega) (by omega)
    simp (disch := omega) only [f_X8_inLot_3, gK, gR, gN, gIs, bR_s, bd_s, nm_s, ck, inb_nI, and_self, ite_true, ite_false, nI_clamp, fa_lit, pk_mul, nI_add, n10, n1z, n00, eq_self, not_true_eq_false, not_false_eq_true, hC, q_loanOf hQ hl (w := 0) (by omega), p_bondAt, nI_ltI, nI_leI, nI_eq, own_eq2, sub_add1, Nat.add_zero, hk2, n0, n1, n2, n3, Nat.zero_add, ← Nat.add_assoc, fnd]
    by_cases hq : S (480 + 60 * l + k) = y
    · by_cases hr : S (720 + 60 * l + k) = r
      · simp only [hq, hr, decide_true, decide_false, Bool.and_self, Bool.and_false, Bool.false_and, Bool.true_and, Bool.and_true, ite_true, ite_false, not_true_eq_false, not_false_eq_true, Bool.false_eq_true]
        rfl
      · simp only [hq, hr, decide_true, decide_false, Bool.and_self, Bool.and_false, Bool.false_and, Bool.true_and, Bool.and_true, ite_true, ite_false, not_true_eq_false, not_false_eq_true, Bool.false_eq_true]
        exact ih
    · by_cases hr : S (720 + 60 * l + k) = r
      · simp only [hq, hr, decide_true, decide_false, Bool.and_self, Bool.and_false, Bool.false_and, Bool.true_and, Bool.and_true, ite_true, ite_false, not_true_eq_false, not_false_eq_true, Bool.false_eq_true]
        exact ih
      · simp only [hq, hr, decide_true, decide_false, Bool.and_self, Bool.and_false, Bool.false_and, Bool.true_and, Bool.and_true, ite_true, ite_false, not_true_eq_false, not_false_eq_true, Bool.false_eq_true]
        exact ih
theorem p_drawnAs (hQ : CQ B t M T S c) (hl : l < T 0) {y r : Nat} (hy : y < 2 ^ 31) (hr : r < 2 ^ 31) : f_X5_drawnAs (B + 15) t (nI l) (nI y) (nI r) M = some (ofnd (nI 0) (fnd (fun k => decide (S (480 + 60 * l + k) = y) && decide (S (720 + 60 * l + k) = r)) (T (12 + 7 * l)) 0), M) := by
  have w := hQ.2.2.2.2.1.2.2 l hl
  exact p_drawnAs_lp hQ hl hy hr (T (12 + 7 * l)) 0 FU (by omega) (by unfold FU; omega)
theorem q_inLot (hQ : RQ B M T S c) (hl : l < T 0) {y r : Nat} (hy : y < 2 ^ 31) (hr : r < 2 ^ 31) : f_X8_inLot (B + 59) (nI l) (nI y) (nI r) M = some (ofnd (-nI 1) (fnd (fun k => decide (S (480 + 60 * l + k) = y) && decide (S (720 + 60 * l + k) = r)) (T (12 + 7 * l)) 0), M) := by
  have w := hQ.2.2.2.1.2.2 l hl
  exact q_inLot_lp hQ hl hy hr (T (12 + 7 * l)) 0 FU (by omega) (by unfold FU; omega)
theorem fnd_lt {P : Nat → Bool} : ∀ {d k j : Nat}, fnd P d k = some j → k ≤ j ∧ j < k + d ∧ P j = true
  | 0, _, _, h => by cases h
  | d + 1, k, j, h => by
    unfold fnd at h
    by_cases hp : P k = true
    · rw [if_pos hp] at h
      cases h
      exact ⟨by omega, by omega, hp⟩
    · rw [if_neg hp] at h
      have := fnd_lt h
      exact ⟨by omega, by omega, this.2.2⟩
end FND
