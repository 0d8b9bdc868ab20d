section CNT
variable {B t l c : Nat} {T S : Nat → Nat} {M : Mm}
theorem own_eq {a h : Nat} (ha : a < 2 ^ 31 - 1) (hh : h < 2 ^ 31 - 1) : (nI a - nI 1 = nI h) ↔ a = h + 1 := by
  have h2 : (nI 1).toInt = 1 := by decide
  have h3 := nI_toInt (n := a) (by omega)
  have h4 := nI_toInt (n := h) (by omega)
  have h5 : (nI a - nI 1).toInt = a - 1 := by rw [fb_subI (by omega) (by omega)]; omega
  rw [fa_eq, h5, h4]
  omega
theorem p_countBonds_lp (hQ : CQ B t M T S c) (hl : l < T 0) {st : Nat} (hst : st < 2 ^ 31) : ∀ (d k n : Nat), k + d = T (12 + 7 * l) → d < n → f_X5_countBonds_6 n (B + 15) t (nI l) (nI st) (nI (fb_ct (fun k => decide (S (60 * l + k) = st)) k)) (nI (k + 1)) M = some (nI (fb_ct (fun k => decide (S (60 * l + k) = st)) (T (12 + 7 * l))), M) := by
  obtain ⟨hC, hB0, hT, hS, hW, hc, hs, hw, hc6⟩ := id hQ
  have w0 := hW.1
  have w1 := hW.2.1
  have w := hW.2.2 l hl
  have c2 := hc.2.2.1 l hl
  have s2 := hs.2.2.2.2 l hl
  have v2 := hw.2.2.2.2.1 l hl
  have y60 := hw.1
  intro d
  induction d with
  | zero =>
    intro k n hk hn
    obtain ⟨n, rfl⟩ : ∃ m, n = m + 1 := ⟨n - 1, by omega⟩
    have hk : k = T (12 + 7 * l) := by omega
    subst hk
    simp (disch := omega) only [f_X5_countBonds_6, gK, gR, gN, gIs, bR_s, bd_s, nm_s, ck, inb_nI, and_self, ite_true, ite_false, nI_clamp, fa_lit, pk_mul, nI_add, n10, n1z, n00, eq_self, not_true_eq_false, not_false_eq_true, hC, hB0, hT, hS, c2, p_spotOf, nI_ltI, nI_leI, nI_eq, own_eq, Nat.add_zero, Nat.lt_succ_self]
  | succ d ih =>
    intro k n hk hn
    obtain ⟨n, rfl⟩ : ∃ m, n = m + 1 := ⟨n - 1, by omega⟩
    have hk2 : ¬ T (12 + 7 * l) < k + 1 := by omega
    have v3 := v2 k (by omega)
    have s3 := s2 k (by omega)
    have ih := ih (k + 1) n (by omega) (by omega)
    rw [fb_ct_succ] at ih
    simp (disch := omega) only [f_X5_countBonds_6, gK, gR, gN, gIs, bR_s, bd_s, nm_s, ck, inb_nI, and_self, ite_true, ite_false, nI_clamp, fa_lit, pk_mul, nI_add, n10, n1z, n00, eq_self, not_true_eq_false, not_false_eq_true, hC, hB0, hT, hS, c2, p_spotOf, nI_ltI, nI_leI, nI_eq, own_eq, Nat.add_zero, hk2, s3]
    by_cases hq : S (60 * l + k) = st
    · simp only [hq, decide_true, ite_true, ite_false, not_true_eq_false, not_false_eq_true, Bool.false_eq_true, Nat.add_zero] at ih ⊢
      exact ih
    · simp only [hq, decide_false, ite_true, ite_false, not_true_eq_false, not_false_eq_true, Bool.false_eq_true, Nat.add_zero] at ih ⊢
      exact ih
theorem p_countBonds (hQ : CQ B t M T S c) (hl : l < T 0) {st : Nat} (hst : st < 2 ^ 31) : f_X5_countBonds (B + 15) t (nI l) (nI st) M = some (nI (ctS T S l st), M) := by
  have w := hQ.2.2.2.2.1.2.2 l hl
  have h := p_countBonds_lp hQ hl hst (T (12 + 7 * l)) 0 FU (by omega) (by unfold FU; omega)
  exact h
theorem p_countHeld_lp (hQ : CQ B t M T S c) (hl : l < T 0) {st h : Nat} (hst : st < 2 ^ 31) (hh : h < 2 ^ 31 - 1) : ∀ (d k n : Nat), k + d = T (12 + 7 * l) → d < n → f_X5_countHeld_6 n (B + 15) t (nI l) (nI st) (nI h) (nI (fb_ct (fun k => decide (S (60 * l + k) = st) && decide (S (240 + 60 * l + k) = h + 1)) k)) (nI (k + 1)) M = some (nI (fb_ct (fun k => decide (S (60 * l + k) = st) && decide (S (240 + 60 * l + k) = h + 1)) (T (12 + 7 * l))), M) := by
  obtain ⟨hC, hB0, hT, hS, hW, hc, hs, hw, hc6⟩ := id hQ
  have w0 := hW.1
  have w1 := hW.2.1
  have w := hW.2.2 l hl
  have c2 := hc.2.2.1 l hl
  have s2 := hs.2.2.2.2 l hl
  have v2 := hw.2.2.2.2.1 l hl
  have y60 := hw.1
  intro d
  induction d with
  | zero =>
    intro k n hk hn
    obtain ⟨n, rfl⟩ : ∃ m, n = m + 1 := ⟨n - 1, by omega⟩
    have hk : k = T (12 + 7 * l) := by omega
    subst hk
    simp (disch := omega) only [f_X5_countHeld_6, gK, gR, gN, gIs, bR_s, bd_s, nm_s, ck, inb_nI, and_self, ite_true, ite_false, nI_clamp, fa_lit, pk_mul, nI_add, n10, n1z, n00, eq_self, not_true_eq_false, not_false_eq_true, hC, hB0, hT, hS, c2, p_spotOf, nI_ltI, nI_leI, nI_eq, own_eq, Nat.add_zero, Nat.lt_succ_self]
  | succ d ih =>
    intro k n hk hn
    obtain ⟨n, rfl⟩ : ∃ m, n = m + 1 := ⟨n - 1, by omega⟩
    have hk2 : ¬ T (12 + 7 * l) < k + 1 := by omega
    have v3 := v2 k (by omega)
    have s3 := s2 k (by omega)
    have ih := ih (k + 1) n (by omega) (by omega)
    rw [fb_ct_succ] at ih
    simp (disch := omega) only [f_X5_countHeld_6, gK, gR, gN, gIs, bR_s, bd_s, nm_s, ck, inb_nI, and_self, ite_true, ite_false, nI_clamp, fa_lit, pk_mul, nI_add, n10, n1z, n00, eq_self, not_true_eq_false, not_false_eq_true, hC, hB0, hT, hS, c2, p_spotOf, nI_ltI, nI_leI, nI_eq, own_eq, Nat.add_zero, hk2, s3]
    by_cases hq : S (60 * l + k) = st
    · by_cases hr : S (240 + 60 * l + k) = h + 1
      · simp only [hq, hr, decide_true, decide_false, Bool.and_self, Bool.and_false, Bool.false_and, Bool.true_and, Bool.and_true, ite_true, ite_false, not_true_eq_false, not_false_eq_true, Bool.false_eq_true, Nat.add_zero] at ih ⊢
        exact ih
      · simp only [hq, hr, decide_true, decide_false, Bool.and_self, Bool.and_false, Bool.false_and, Bool.true_and, Bool.and_true, ite_true, ite_false, not_true_eq_false, not_false_eq_true, Bool.false_eq_true, Nat.add_zero] at ih ⊢
        exact ih
    · by_cases hr : S (240 + 60 * l + k) = h + 1
      · simp only [hq, hr, decide_true, decide_false, Bool.and_self, Bool.and_false, Bool.false_and, Bool.true_and, Bool.and_true, ite_true, ite_false, not_true_eq_false, not_false_eq_true, Bool.false_eq_true, Nat.add_zero] at ih ⊢
        exact ih
      · simp only [hq, hr, decide_true, decide_false, Bool.and_self, Bool.and_false, Bool.false_and, Bool.true_and, Bool.and_true, ite_true, ite_false, not_true_eq_false, not_false_eq_true, Bool.false_eq_true, Nat.add_zero] at ih ⊢
        exact ih
theorem p_countHeld (hQ : CQ B t M T S c) (hl : l < T 0) {st h : Nat} (hst : st < 2 ^ 31) (hh : h < 2 ^ 31 - 1) : f_X5_countHeld (B + 15) t (nI l) (nI st) (nI h) M = some (nI (fb_ct (fun k => decide (S (60 * l + k) = st) && decide (S (240 + 60 * l + k) = h + 1)) (T (12 + 7 * l))), M) := by
  have w := hQ.2.2.2.2.1.2.2 l hl
  have h := p_countHeld_lp hQ hl hst hh (T (12 + 7 * l)) 0 FU (by omega) (by unfold FU; omega)
  exact h
theorem p_countRetired_lp (hQ : CQ B t M T S c) (hl : l < T 0) {y : Nat} (hy : y < 2 ^ 31) : ∀ (d k n : Nat), k + d = T (12 + 7 * l) → d < n → f_X5_countRetired_6 n (B + 15) t (nI l) (nI y) (nI (fb_ct (fun k => decide (S (480 + 60 * l + k) = y)) k)) (nI (k + 1)) M = some (nI (fb_ct (fun k => decide (S (480 + 60 * l + k) = y)) (T (12 + 7 * l))), M) := by
  obtain ⟨hC, hB0, hT, hS, hW, hc, hs, hw, hc6⟩ := id hQ
  have w0 := hW.1
  have w1 := hW.2.1
  have w := hW.2.2 l hl
  have c2 := hc.2.2.1 l hl
  have s2 := hs.2.2.2.2 l hl
  have v2 := hw.2.2.2.2.1 l hl
  have y60 := hw.1
  intro d
  induction d with
  | zero =>
    intro k n hk hn
    obtain ⟨n, rfl⟩ : ∃ m, n = m + 1 := ⟨n - 1, by omega⟩
    have hk : k = T (12 + 7 * l) := by omega
    subst hk
    simp (disch := omega) only [f_X5_countRetired_6, gK, gR, gN, gIs, bR_s, bd_s, nm_s, ck, inb_nI, and_self, ite_true, ite_false, nI_clamp, fa_lit, pk_mul, nI_add, n10, n1z, n00, eq_self, not_true_eq_false, not_false_eq_true, hC, hB0, hT, hS, c2, p_spotOf, nI_ltI, nI_leI, nI_eq, own_eq, Nat.add_zero, Nat.lt_succ_self]
  | succ d ih =>
    intro k n hk hn
    obtain ⟨n, rfl⟩ : ∃ m, n = m + 1 := ⟨n - 1, by omega⟩
    have hk2 : ¬ T (12 + 7 * l) < k + 1 := by omega
    have v3 := v2 k (by omega)
    have s3 := s2 k (by omega)
    have ih := ih (k + 1) n (by omega) (by omega)
    rw [fb_ct_succ] at ih
    simp (disch := omega) only [f_X5_countRetired_6, gK, gR, gN, gIs, bR_s, bd_s, nm_s, ck, inb_nI, and_self, ite_true, ite_false, nI_clamp, fa_lit, pk_mul, nI_add, n10, n1z, n00, eq_self, not_true_eq_false, not_false_eq_true, hC, hB0, hT, hS, c2, p_spotOf, nI_ltI, nI_leI, nI_eq, own_eq, Nat.add_zero, hk2, s3]
    by_cases hq : S (480 + 60 * l + k) = y
    · simp only [hq, decide_true, ite_true, ite_false, not_true_eq_false, not_false_eq_true, Bool.false_eq_true, Nat.add_zero] at ih ⊢
      exact ih
    · simp only [hq, decide_false, ite_true, ite_false, not_true_eq_false, not_false_eq_true, Bool.false_eq_true, Nat.add_zero] at ih ⊢
      exact ih
theorem p_countRetired (hQ : CQ B t M T S c) (hl : l < T 0) {y : Nat} (hy : y < 2 ^ 31) : f_X5_countRetired (B + 15) t (nI l) (nI y) M = some (nI (fb_ct (fun k => decide (S (480 + 60 * l + k) = y)) (T (12 + 7 * l))), M) := by
  have w := hQ.2.2.2.2.1.2.2 l hl
  have h := p_countRetired_lp hQ hl hy (T (12 + 7 * l)) 0 FU (by omega) (by unfold FU; omega)
  exact h
theorem q_howMany_lp (hQ : RQ B M T S c) (hl : l < T 0) {st : Nat} (hst : st < 2 ^ 31) : ∀ (d k n : Nat), k + d = T (12 + 7 * l) → d < n → f_X8_howMany_5 n (B + 59) (nI l) (nI st) (nI (fb_ct (fun k => decide (S (60 * l + k) = st)) k)) (nI (k + 1)) M = some (nI (fb_ct (fun k => decide (S (60 * l + k) = st)) (T (12 + 7 * l))), M) := by
  obtain ⟨hC, ht8, hn14, hW, hw, hc6⟩ := id hQ
  have w0 := hW.1
  have w1 := hW.2.1
  have w := hW.2.2 l hl
  have v2 := hw.2.2.2.2.1 l hl
  have y60 := hw.1
  intro d
  induction d with
  | zero =>
    intro k n hk hn
    obtain ⟨n, rfl⟩ : ∃ m, n = m + 1 := ⟨n - 1, by omega⟩
    have hk : k = T (12 + 7 * l) := by omega
    subst hk
    simp (disch := omega) only [f_X8_howMany_5, gK, gR, gN, gIs, bR_s, bd_s, nm_s, ck, inb_nI, and_self, ite_true, ite_false, nI_clamp, fa_lit, pk_mul, nI_add, n10, n1z, n00, eq_self, not_true_eq_false, not_false_eq_true, hC, q_loanOf hQ hl (w := 0) (by omega), p_bondAt, nI_ltI, nI_leI, nI_eq, own_eq, Nat.add_zero, Nat.lt_succ_self]
  | succ d ih =>
    intro k n hk hn
    obtain ⟨n, rfl⟩ : ∃ m, n = m + 1 := ⟨n - 1, by omega⟩
    have hk2 : ¬ T (12 + 7 * l) < k + 1 := by omega
    have v3 := v2 k (by omega)
    have n0 := hn14 (60 * l + k) (by omega)
    have n1 := hn14 (240 + (60 * l + k)) (by omega)
    have n2 := hn14 (480 + (60 * l + k)) (by omega)
    have n3 := hn14 (720 + (60 * l + k)) (by omega)
    rw [← Nat.add_assoc] at n1 n2 n3
    have ih := ih (k + 1) n (by omega) (by omega)
    rw [fb_ct_succ] at ih
    simp (disch := omega) only [f_X8_howMany_5, gK, gR, gN, gIs, bR_s, bd_s, nm_s, ck, inb_nI, and_self, ite_true, ite_false, nI_clamp, fa_lit, pk_mul, nI_add, n10, n1z, n00, eq_self, not_true_eq_false, not_false_eq_true, hC, q_loanOf hQ hl (w := 0) (by omega), p_bondAt, nI_ltI, nI_leI, nI_eq, own_eq, Nat.add_zero, hk2, n0, n1, n2, n3, Nat.zero_add, ← Nat.add_assoc]
    by_cases hq : S (60 * l + k) = st
    · simp only [hq, decide_true, ite_true, ite_false, not_true_eq_false, not_false_eq_true, Bool.false_eq_true, Nat.add_zero] at ih ⊢
      exact ih
    · simp only [hq, decide_false, ite_true, ite_false, not_true_eq_false, not_false_eq_true, Bool.false_eq_true, Nat.add_zero] at ih ⊢
      exact ih
theorem q_howMany (hQ : RQ B M T S c) (hl : l < T 0) {st : Nat} (hst : st < 2 ^ 31) : f_X8_howMany (B + 59) (nI l) (nI st) M = some (nI (ctS T S l st), M) := by
  have w := hQ.2.2.2.1.2.2 l hl
  have h := q_howMany_lp hQ hl hst (T (12 + 7 * l)) 0 FU (by omega) (by unfold FU; omega)
  exact h
theorem q_lotMany_lp (hQ : RQ B M T S c) (hl : l < T 0) {y : Nat} (hy : y < 2 ^ 31) : ∀ (d k n : Nat), k + d = T (12 + 7 * l) → d < n → f_X8_lotMany_5 n (B + 59) (nI l) (nI y) (nI (fb_ct (fun k => decide (S (480 + 60 * l + k) = y)) k)) (nI (k + 1)) M = some (nI (fb_ct (fun k => decide (S (480 + 60 * l + k) = y)) (T (12 + 7 * l))), M) := by
  obtain ⟨hC, ht8, hn14, hW, hw, hc6⟩ := id hQ
  have w0 := hW.1
  have w1 := hW.2.1
  have w := hW.2.2 l hl
  have v2 := hw.2.2.2.2.1 l hl
  have y60 := hw.1
  intro d
  induction d with
  | zero =>
    intro k n hk hn
    obtain ⟨n, rfl⟩ : ∃ m, n = m + 1 := ⟨n - 1, by omega⟩
    have hk : k = T (12 + 7 * l) := by omega
    subst hk
    simp (disch := omega) only [f_X8_lotMany_5, gK, gR, gN, gIs, bR_s, bd_s, nm_s, ck, inb_nI, and_self, ite_true, ite_false, nI_clamp, fa_lit, pk_mul, nI_add, n10, n1z, n00, eq_self, not_true_eq_false, not_false_eq_true, hC, q_loanOf hQ hl (w := 0) (by omega), p_bondAt, nI_ltI, nI_leI, nI_eq, own_eq, Nat.add_zero, Nat.lt_succ_self]
  | succ d ih =>
    intro k n hk hn
    obtain ⟨n, rfl⟩ : ∃ m, n = m + 1 := ⟨n - 1, by omega⟩
    have hk2 : ¬ T (12 + 7 * l) < k + 1 := by omega
    have v3 := v2 k (by omega)
    have n0 := hn14 (60 * l + k) (by omega)
    have n1 := hn14 (240 + (60 * l + k)) (by omega)
    have n2 := hn14 (480 + (60 * l + k)) (by omega)
    have n3 := hn14 (720 + (60 * l + k)) (by omega)
    rw [← Nat.add_assoc] at n1 n2 n3
    have ih := ih (k + 1) n (by omega) (by omega)
    rw [fb_ct_succ] at ih
    simp (disch := omega) only [f_X8_lotMany_5, gK, gR, gN, gIs, bR_s, bd_s, nm_s, ck, inb_nI, and_self, ite_true, ite_false, nI_clamp, fa_lit, pk_mul, nI_add, n10, n1z, n00, eq_self, not_true_eq_false, not_false_eq_true, hC, q_loanOf hQ hl (w := 0) (by omega), p_bondAt, nI_ltI, nI_leI, nI_eq, own_eq, Nat.add_zero, hk2, n0, n1, n2, n3, Nat.zero_add, ← Nat.add_assoc]
    by_cases hq : S (480 + 60 * l + k) = y
    · simp only [hq, decide_true, ite_true, ite_false, not_true_eq_false, not_false_eq_true, Bool.false_eq_true, Nat.add_zero] at ih ⊢
      exact ih
    · simp only [hq, decide_false, ite_true, ite_false, not_true_eq_false, not_false_eq_true, Bool.false_eq_true, Nat.add_zero] at ih ⊢
      exact ih
theorem q_lotMany (hQ : RQ B M T S c) (hl : l < T 0) {y : Nat} (hy : y < 2 ^ 31) : f_X8_lotMany (B + 59) (nI l) (nI y) M = some (nI (fb_ct (fun k => decide (S (480 + 60 * l + k) = y)) (T (12 + 7 * l))), M) := by
  have w := hQ.2.2.2.1.2.2 l hl
  have h := q_lotMany_lp hQ hl hy (T (12 + 7 * l)) 0 FU (by omega) (by unfold FU; omega)
  exact h
theorem q_held_lp (hQ : RQ B M T S c) (hl : l < T 0) {st h : Nat} (hst : st < 2 ^ 31) (hh : h < 2 ^ 31 - 1) : ∀ (d k n : Nat), k + d = T (12 + 7 * l) → d < n → f_X8_held_41 n (B + 59) (nI h) (nI l) (nI st) (nI (fb_ct (fun k => decide (S (60 * l + k) = st) && decide (S (240 + 60 * l + k) = h + 1)) k)) (nI (k + 1)) M = some (nI (fb_ct (fun k => decide (S (60 * l + k) = st) && decide (S (240 + 60 * l + k) = h + 1)) (T (12 + 7 * l))), M) := by
  obtain ⟨hC, ht8, hn14, hW, hw, hc6⟩ := id hQ
  have w0 := hW.1
  have w1 := hW.2.1
  have w := hW.2.2 l hl
  have v2 := hw.2.2.2.2.1 l hl
  have y60 := hw.1
  intro d
  induction d with
  | zero =>
    intro k n hk hn
    obtain ⟨n, rfl⟩ : ∃ m, n = m + 1 := ⟨n - 1, by omega⟩
    have hk : k = T (12 + 7 * l) := by omega
    subst hk
    simp (disch := omega) only [f_X8_held_41, gK, gR, gN, gIs, bR_s, bd_s, nm_s, ck, inb_nI, and_self, ite_true, ite_false, nI_clamp, fa_lit, pk_mul, nI_add, n10, n1z, n00, eq_self, not_true_eq_false, not_false_eq_true, hC, q_loanOf hQ hl (w := 0) (by omega), p_bondAt, nI_ltI, nI_leI, nI_eq, own_eq, Nat.add_zero, Nat.lt_succ_self]
  | succ d ih =>
    intro k n hk hn
    obtain ⟨n, rfl⟩ : ∃ m, n = m + 1 := ⟨n - 1, by omega⟩
    have hk2 : ¬ T (12 + 7 * l) < k + 1 := by omega
    have v3 := v2 k (by omega)
    have n0 := hn14 (60 * l + k) (by omega)
    have n1 := hn14 (240 + (60 * l + k)) (by omega)
    have n2 := hn14 (480 + (60 * l + k)) (by omega)
    have n3 := hn14 (720 + (60 * l + k)) (by omega)
    rw [← Nat.add_assoc] at n1 n2 n3
    have ih := ih (k + 1) n (by omega) (by omega)
    rw [fb_ct_succ] at ih
    simp (disch := omega) only [f_X8_held_41, gK, gR, gN, gIs, bR_s, bd_s, nm_s, ck, inb_nI, and_self, ite_true, ite_false, nI_clamp, fa_lit, pk_mul, nI_add, n10, n1z, n00, eq_self, not_true_eq_false, not_false_eq_true, hC, q_loanOf hQ hl (w := 0) (by omega), p_bondAt, nI_ltI, nI_leI, nI_eq, own_eq, Nat.add_zero, hk2, n0, n1, n2, n3, Nat.zero_add, ← Nat.add_assoc]
    by_cases hq : S (60 * l + k) = st
    · by_cases hr : S (240 + 60 * l + k) = h + 1
      · simp only [hq, hr, decide_true, decide_false, Bool.and_self, Bool.and_false, Bool.false_and, Bool.true_and, Bool.and_true, ite_true, ite_false, not_true_eq_false, not_false_eq_true, Bool.false_eq_true, Nat.add_zero] at ih ⊢
        exact ih
      · simp only [hq, hr, decide_true, decide_false, Bool.and_self, Bool.and_false, Bool.false_and, Bool.true_and, Bool.and_true, ite_true, ite_false, not_true_eq_false, not_false_eq_true, Bool.false_eq_true, Nat.add_zero] at ih ⊢
        exact ih
    · by_cases hr : S (240 + 60 * l + k) = h + 1
      · simp only [hq, hr, decide_true, decide_false, Bool.and_self, Bool.and_false, Bool.false_and, Bool.true_and, Bool.and_true, ite_true, ite_false, not_true_eq_false, not_false_eq_true, Bool.false_eq_true, Nat.add_zero] at ih ⊢
        exact ih
      · simp only [hq, hr, decide_true, decide_false, Bool.and_self, Bool.and_false, Bool.false_and, Bool.true_and, Bool.and_true, ite_true, ite_false, not_true_eq_false, not_false_eq_true, Bool.false_eq_true, Nat.add_zero] at ih ⊢
        exact ih
end CNT
