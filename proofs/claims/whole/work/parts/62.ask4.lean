section ASK4
variable {B t l k c : Nat} {T S : Nat → Nat} {M : Mm} {x y z : Int32}
theorem p_last_lp (hQ : CQ B t M T S c) (hl : l < T 0) {q : Nat} (hq : q < 2 ^ 31) : ∀ (d k n s i : Nat), k + d = T (12 + 7 * l) → d < n → s ≤ k → s + i < 2 ^ 31 → f_X7_lastOne_60 n B (nI l) (nI (s + i)) (nI q) (nI s) (nI (k + 1)) M = some (ofnd (-nI 2) (nth (fun k => decide (S (480 + 60 * l + k) = q)) d k i), M) := by
  obtain ⟨hC, hB0, hT, hS, hW, hc, hs, hw, hc6⟩ := id hQ
  have w0 := hW.1
  have w1 := hW.2.1
  have w := (hW.2.2 l hl).2.1
  have c2 := hc.2.2.1 l hl
  have s2 := hs.2.2.2.2 l hl
  have v2 := hw.2.2.2.2.1 l hl
  have y60 := hw.1
  intro d
  induction d with
  | zero =>
    intro k n s i hk hn h1 h2
    obtain ⟨n, rfl⟩ : ∃ m, n = m + 1 := ⟨n - 1, by omega⟩
    have hk : k = T (12 + 7 * l) := by omega
    subst hk
    simp (disch := omega) only [f_X7_lastOne_60, reduceIte, ↓reduceIte, gK, gR, gN, gIs, bR_s, bd_s, nm_s, ck, inb_nI, and_self, nI_clamp, fa_lit, pk_mul, nI_add, n10, n1z, n00, eq_self, not_true_eq_false, not_false_eq_true, hC, hB0, hT, hS, c2, nI_ltI, Nat.lt_succ_self, nth, ofnd]
  | succ d ih =>
    intro k n s i hk hn h1 h2
    obtain ⟨n, rfl⟩ : ∃ m, n = m + 1 := ⟨n - 1, by omega⟩
    have hk2 : ¬ T (12 + 7 * l) < k + 1 := by omega
    have s3 := (s2 k (by omega)).2.2.1
    have v3 := (v2 k (by omega)).2.2.2.1
    by_cases hp : S (480 + 60 * l + k) = q
    · by_cases hi : i = 0
      · subst hi
        simp (disch := omega) only [f_X7_lastOne_60, reduceIte, ↓reduceIte, gK, gR, gN, gIs, bR_s, bd_s, nm_s, ck, inb_nI, and_self, nI_clamp, fa_lit, pk_mul, nI_add, n10, n1z, n00, eq_self, not_true_eq_false, not_false_eq_true, hC, hB0, hT, hS, c2, p_spotOf, nI_ltI, nI_eq, hk2, s3, hp, nth, decide_true, Nat.add_zero, ofnd]
      · have ih := ih (k + 1) n (s + 1) (i - 1) (by omega) (by omega) (by omega) (by omega)
        rw [show s + 1 + (i - 1) = s + i by omega] at ih
        have hsi : ¬ s = s + i := by omega
        simp (disch := omega) only [f_X7_lastOne_60, reduceIte, ↓reduceIte, gK, gR, gN, gIs, bR_s, bd_s, nm_s, ck, inb_nI, and_self, nI_clamp, fa_lit, pk_mul, nI_add, n10, n1z, n00, eq_self, not_true_eq_false, not_false_eq_true, hC, hB0, hT, hS, c2, p_spotOf, nI_ltI, nI_eq, hk2, s3, hp, nth, decide_true, hi, hsi]
        exact ih
    · have ih := ih (k + 1) n s i (by omega) (by omega) (by omega) (by omega)
      simp (disch := omega) only [f_X7_lastOne_60, reduceIte, ↓reduceIte, gK, gR, gN, gIs, bR_s, bd_s, nm_s, ck, inb_nI, and_self, nI_clamp, fa_lit, pk_mul, nI_add, n10, n1z, n00, eq_self, not_true_eq_false, not_false_eq_true, hC, hB0, hT, hS, c2, p_spotOf, nI_ltI, nI_eq, hk2, s3, hp, nth, decide_false, Bool.false_eq_true]
      exact ih
theorem q_last_lp (hQ : RQ B M T S c) (hl : l < T 0) : ∀ (d k n s i : Nat), k + d = T (12 + 7 * l) → d < n → s ≤ k → s + i < 2 ^ 31 → f_X8_lastOne_37 n (B + 59) (nI l) (nI (s + i)) (nI s) (nI (k + 1)) M = some (ofnd (-nI 2) (nth (fun k => decide (S (480 + 60 * l + k) = T (12 + 7 * l + 3))) d k i), M) := by
  obtain ⟨hC, ht8, hn14, hW, hw, hc6⟩ := id hQ
  have w0 := hW.1
  have w1 := hW.2.1
  have w := (hW.2.2 l hl).2.1
  have y20 := (hW.2.2 l hl).2.2.2.2.2.2.1
  have v2 := hw.2.2.2.2.1 l hl
  have y60 := hw.1
  have lo0 := q_loanOf hQ hl (w := 0) (by omega)
  have lo3 := q_loanOf hQ hl (w := 3) (by omega)
  intro d
  induction d with
  | zero =>
    intro k n s i hk hn h1 h2
    obtain ⟨n, rfl⟩ : ∃ m, n = m + 1 := ⟨n - 1, by omega⟩
    have hk : k = T (12 + 7 * l) := by omega
    subst hk
    have hne := neg1_ne h2
    simp (disch := omega) only [f_X8_lastOne_37, reduceIte, ↓reduceIte, gK, gR, gN, gIs, bR_s, bd_s, nm_s, ck, inb_nI, and_self, nI_clamp, fa_lit, pk_mul, nI_add, n10, n1z, n00, eq_self, not_true_eq_false, not_false_eq_true, hC, lo0, Nat.add_zero, nI_ltI, Nat.lt_succ_self, nth, ofnd, hne]
  | succ d ih =>
    intro k n s i hk hn h1 h2
    obtain ⟨n, rfl⟩ : ∃ m, n = m + 1 := ⟨n - 1, by omega⟩
    have hk2 : ¬ T (12 + 7 * l) < k + 1 := by omega
    have v3 := (v2 k (by omega)).2.2.2.1
    have n2 := hn14 (480 + (60 * l + k)) (by omega)
    rw [← Nat.add_assoc] at n2
    by_cases hp : S (480 + 60 * l + k) = T (12 + 7 * l + 3)
    · rw [hp] at n2
      by_cases hi : i = 0
      · subst hi
        simp (disch := omega) only [f_X8_lastOne_37, reduceIte, ↓reduceIte, gK, gR, gN, gIs, bR_s, bd_s, nm_s, ck, inb_nI, and_self, nI_clamp, fa_lit, pk_mul, nI_add, n10, n1z, n00, eq_self, not_true_eq_false, not_false_eq_true, hC, lo0, lo3, p_bondAt, nI_ltI, nI_eq, hk2, ← Nat.add_assoc, n2, hp, nth, decide_true, Nat.add_zero, ofnd]
      · have ih := ih (k + 1) n (s + 1) (i - 1) (by omega) (by omega) (by omega) (by omega)
        rw [show s + 1 + (i - 1) = s + i by omega] at ih
        have hsi : ¬ s = s + i := by omega
        simp (disch := omega) only [f_X8_lastOne_37, reduceIte, ↓reduceIte, gK, gR, gN, gIs, bR_s, bd_s, nm_s, ck, inb_nI, and_self, nI_clamp, fa_lit, pk_mul, nI_add, n10, n1z, n00, eq_self, not_true_eq_false, not_false_eq_true, hC, lo0, lo3, p_bondAt, nI_ltI, nI_eq, hk2, ← Nat.add_assoc, n2, hp, nth, decide_true, hi, hsi, Nat.add_zero]
        exact ih
    · have ih := ih (k + 1) n s i (by omega) (by omega) (by omega) (by omega)
      simp (disch := omega) only [f_X8_lastOne_37, reduceIte, ↓reduceIte, gK, gR, gN, gIs, bR_s, bd_s, nm_s, ck, inb_nI, and_self, nI_clamp, fa_lit, pk_mul, nI_add, n10, n1z, n00, eq_self, not_true_eq_false, not_false_eq_true, hC, lo0, lo3, p_bondAt, nI_ltI, nI_eq, hk2, ← Nat.add_assoc, n2, hp, nth, decide_false, Bool.false_eq_true, Nat.add_zero]
      exact ih
theorem q_lastn_lp (hQ : RQ B M T S c) (hl : l < T 0) (hx : x < nI 0) : ∀ (d k n : Nat), k + d = T (12 + 7 * l) → d < n → f_X8_lastOne_37 n (B + 59) (nI l) x (nI (fb_ct (fun k => decide (S (480 + 60 * l + k) = T (12 + 7 * l + 3))) k)) (nI (k + 1)) M = some (if ¬ x = -nI 1 then -nI 2 else nI (fb_ct (fun k => decide (S (480 + 60 * l + k) = T (12 + 7 * l + 3))) (T (12 + 7 * l))), M) := by
  obtain ⟨hC, ht8, hn14, hW, hw, hc6⟩ := id hQ
  have w0 := hW.1
  have w1 := hW.2.1
  have w := (hW.2.2 l hl).2.1
  have y20 := (hW.2.2 l hl).2.2.2.2.2.2.1
  have v2 := hw.2.2.2.2.1 l hl
  have y60 := hw.1
  have lo0 := q_loanOf hQ hl (w := 0) (by omega)
  have lo3 := q_loanOf hQ hl (w := 3) (by omega)
  intro d
  induction d with
  | zero =>
    intro k n hk hn
    obtain ⟨n, rfl⟩ : ∃ m, n = m + 1 := ⟨n - 1, by omega⟩
    have hk : k = T (12 + 7 * l) := by omega
    subst hk
    by_cases hz : x = -nI 1
    · simp (disch := omega) only [f_X8_lastOne_37, reduceIte, ↓reduceIte, gK, gR, gN, gIs, bR_s, bd_s, nm_s, ck, inb_nI, and_self, nI_clamp, fa_lit, pk_mul, nI_add, n10, n1z, n00, eq_self, not_true_eq_false, not_false_eq_true, hC, lo0, Nat.add_zero, nI_ltI, Nat.lt_succ_self, hz]
    · simp (disch := omega) only [f_X8_lastOne_37, reduceIte, ↓reduceIte, gK, gR, gN, gIs, bR_s, bd_s, nm_s, ck, inb_nI, and_self, nI_clamp, fa_lit, pk_mul, nI_add, n10, n1z, n00, eq_self, not_true_eq_false, not_false_eq_true, hC, lo0, Nat.add_zero, nI_ltI, Nat.lt_succ_self, hz]
  | succ d ih =>
    intro k n hk hn
    obtain ⟨n, rfl⟩ : ∃ m, n = m + 1 := ⟨n - 1, by omega⟩
    have hk2 : ¬ T (12 + 7 * l) < k + 1 := by omega
    have v3 := (v2 k (by omega)).2.2.2.1
    have n2 := hn14 (480 + (60 * l + k)) (by omega)
    rw [← Nat.add_assoc] at n2
    have ih := ih (k + 1) n (by omega) (by omega)
    rw [fb_ct_succ] at ih
    by_cases hp : S (480 + 60 * l + k) = T (12 + 7 * l + 3)
    · rw [hp] at n2
      have hle := fb_ct_le (fun k => decide (S (480 + 60 * l + k) = T (12 + 7 * l + 3))) k
      have hne : ¬ nI (fb_ct (fun k => decide (S (480 + 60 * l + k) = T (12 + 7 * l + 3))) k) = x := by
        intro e
        rw [← e, nI_ltI (by omega) (by omega)] at hx
        omega
      simp only [hp, decide_true, ite_true] at ih
      simp (disch := omega) only [f_X8_lastOne_37, reduceIte, ↓reduceIte, gK, gR, gN, gIs, bR_s, bd_s, nm_s, ck, inb_nI, and_self, nI_clamp, fa_lit, pk_mul, nI_add, n10, n1z, n00, eq_self, not_true_eq_false, not_false_eq_true, hC, lo0, lo3, p_bondAt, nI_ltI, nI_eq, hk2, ← Nat.add_assoc, n2, hp, Nat.add_zero, hne]
      exact ih
    · simp only [hp, decide_false, Bool.false_eq_true, ite_false, Nat.add_zero] at ih
      simp (disch := omega) only [f_X8_lastOne_37, reduceIte, ↓reduceIte, gK, gR, gN, gIs, bR_s, bd_s, nm_s, ck, inb_nI, and_self, nI_clamp, fa_lit, pk_mul, nI_add, n10, n1z, n00, eq_self, not_true_eq_false, not_false_eq_true, hC, lo0, lo3, p_bondAt, nI_ltI, nI_eq, hk2, ← Nat.add_assoc, n2, hp, Nat.add_zero]
      exact ih
theorem pr_lastOne (hcc : c + 1 ≤ 600) : Pr B c (f_X7_lastOne B x y) (f_X8_lastOne (B + 59) x y) := by
  refine pr_0 hcc (fun M t T S fed tp nd D im G hQ hR hX hY hA => ?_)
  have hR' := hR.th (j := 0) (v := nI 0)
  obtain ⟨hC, hB0, hT, hS, hW, hc, hs, hw, hc6⟩ := id hQ
  have hD := hR.1
  have hD' := hR'.1
  have w0 := hW.1
  have w1 := hW.2.1
  have rt' := hR'.2.1
  have rn' := hR'.2.2.1
  rcases ixL x (n := T 0) (by omega) with h | ⟨l, hl, rfl⟩
  · exact ⟨-nI 1, by simp only [f_X7_lastOne, reduceIte, ↓reduceIte, gK, gR, gN, gIs, bR_s, bd_s, nm_s, ck, inb_nI, and_self, nI_clamp, fa_lit, pk_mul, nI_add, n10, n1z, n00, eq_self, not_true_eq_false, not_false_eq_true, hC, hB0, hT, hS, p_isLoan_n hQ h], by simp only [f_X8_lastOne, reduceIte, ↓reduceIte, gK, gR, gN, gIs, bR_s, bd_s, nm_s, ck, inb_nI, and_self, nI_clamp, fa_lit, pk_mul, nI_add, n10, n1z, n00, eq_self, not_true_eq_false, not_false_eq_true, hD, hD', q_isLoan_n hR' h]⟩
  have w := (hW.2.2 l hl).2.1
  have y20 := (hW.2.2 l hl).2.2.2.2.2.2.1
  have c2 := hc.2.2.1 l hl
  have y60 := hw.1
  have n6 := rn' 1206 (by omega)
  have lo3 := q_loanOf hR' hl (w := 3) (by omega)
  have io := p_isOver hQ hl
  by_cases ho : S 1206 < T (12 + 7 * l + 3)
  · rw [if_pos ho] at io
    have ho2 : ¬ T (12 + 7 * l + 3) ≤ S 1206 := by omega
    exact ⟨-nI 1, by simp only [f_X7_lastOne, reduceIte, ↓reduceIte, gK, gR, gN, gIs, bR_s, bd_s, nm_s, ck, inb_nI, and_self, nI_clamp, fa_lit, pk_mul, nI_add, n10, n1z, n00, eq_self, not_true_eq_false, not_false_eq_true, hC, hB0, hT, hS, p_isLoan_y hQ hl, io], by simp (disch := omega) only [f_X8_lastOne, reduceIte, ↓reduceIte, gK, gR, gN, gIs, bR_s, bd_s, nm_s, ck, inb_nI, and_self, nI_clamp, fa_lit, pk_mul, nI_add, n10, n1z, n00, eq_self, not_true_eq_false, not_false_eq_true, hD, hD', q_isLoan_y hR' hl, lo3, n6, nI_leI, ho2]⟩
  rw [if_neg ho] at io
  have ho2 : T (12 + 7 * l + 3) ≤ S 1206 := by omega
  have hT3 : T (12 + 7 * l + 3) < 2 ^ 31 := by omega
  by_cases hy : y < nI 0
  · have q := q_lastn_lp hR' hl hy (T (12 + 7 * l)) 0 FU (by omega) (by unfold FU; omega)
    rw [show fb_ct (fun k => decide (S (480 + 60 * l + k) = T (12 + 7 * l + 3))) 0 = 0 from rfl] at q
    have hy2 : ¬ nI 0 ≤ y := by rw [fa_le]; rw [fa_lt] at hy; omega
    by_cases hy1 : y = -nI 1
    · subst hy1
      rw [if_neg (fun h => h rfl)] at q
      exact ⟨nI (fb_ct (fun k => decide (S (480 + 60 * l + k) = T (12 + 7 * l + 3))) (T (12 + 7 * l))), by simp (disch := omega) only [f_X7_lastOne, reduceIte, ↓reduceIte, gK, gR, gN, gIs, bR_s, bd_s, nm_s, ck, inb_nI, and_self, nI_clamp, fa_lit, pk_mul, nI_add, n10, n1z, n00, eq_self, not_true_eq_false, not_false_eq_true, hC, hB0, hT, hS, p_isLoan_y hQ hl, io, c2, p_countRetired hQ hl hT3], by simp (disch := omega) only [f_X8_lastOne, reduceIte, ↓reduceIte, gK, gR, gN, gIs, bR_s, bd_s, nm_s, ck, inb_nI, and_self, nI_clamp, fa_lit, pk_mul, nI_add, n10, n1z, n00, eq_self, not_true_eq_false, not_false_eq_true, hD, hD', q_isLoan_y hR' hl, lo3, n6, nI_leI, ho2, Nat.zero_add] at q ⊢; exact q⟩
    · rw [if_pos hy1] at q
      exact ⟨-nI 2, by simp (disch := omega) only [f_X7_lastOne, reduceIte, ↓reduceIte, gK, gR, gN, gIs, bR_s, bd_s, nm_s, ck, inb_nI, and_self, nI_clamp, fa_lit, pk_mul, nI_add, n10, n1z, n00, eq_self, not_true_eq_false, not_false_eq_true, hC, hB0, hT, hS, p_isLoan_y hQ hl, io, c2, hy1, hy2], by simp (disch := omega) only [f_X8_lastOne, reduceIte, ↓reduceIte, gK, gR, gN, gIs, bR_s, bd_s, nm_s, ck, inb_nI, and_self, nI_clamp, fa_lit, pk_mul, nI_add, n10, n1z, n00, eq_self, not_true_eq_false, not_false_eq_true, hD, hD', q_isLoan_y hR' hl, lo3, n6, nI_leI, ho2, Nat.zero_add] at q ⊢; exact q⟩
  · obtain ⟨i, hi, rfl⟩ := nI_of (x := y) hy
    have hy2 : nI 0 ≤ nI i := by rw [nI_leI (by omega) hi]; omega
    have hy1 := neg1_ne hi
    have p := p_last_lp hQ hl hT3 (T (12 + 7 * l)) 0 FU 0 i (by omega) (by unfold FU; omega) (by omega) (by omega)
    have q := q_last_lp hR' hl (T (12 + 7 * l)) 0 FU 0 i (by omega) (by unfold FU; omega) (by omega) (by omega)
    rw [Nat.zero_add] at p q
    exact ⟨ofnd (-nI 2) (nth (fun k => decide (S (480 + 60 * l + k) = T (12 + 7 * l + 3))) (T (12 + 7 * l)) 0 i), by simp (disch := omega) only [f_X7_lastOne, reduceIte, ↓reduceIte, gK, gR, gN, gIs, bR_s, bd_s, nm_s, ck, inb_nI, and_self, nI_clamp, fa_lit, pk_mul, nI_add, n10, n1z, n00, eq_self, not_true_eq_false, not_false_eq_true, hC, hB0, hT, hS, p_isLoan_y hQ hl, io, c2, hy1, hy2, Nat.zero_add] at p ⊢; exact p, by simp (disch := omega) only [f_X8_lastOne, reduceIte, ↓reduceIte, gK, gR, gN, gIs, bR_s, bd_s, nm_s, ck, inb_nI, and_self, nI_clamp, fa_lit, pk_mul, nI_add, n10, n1z, n00, eq_self, not_true_eq_false, not_false_eq_true, hD, hD', q_isLoan_y hR' hl, lo3, n6, nI_leI, ho2, Nat.zero_add] at q ⊢; exact q⟩
theorem p_paid_lp (hQ : CQ B t M T S c) (hl : l < T 0) {w : Nat} (hw6 : w < 6) : ∀ (d k n : Nat), k + d = T (12 + 7 * l) → d < n → f_X7_paid_26 n B (nI l) (nI w) (lN (fb_sm (fun k => shS T S l k w) k)) (nI (k + 1)) M = some (lN (fb_sm (fun k => shS T S l k w) (T (12 + 7 * l))), M) := by
  obtain ⟨hC, hB0, hT, hS, hW, hc, hs, hw, hc6⟩ := id hQ
  have w0 := hW.1
  have w1 := hW.2.1
  have a := (hW.2.2 l hl).2.1
  have c2 := hc.2.2.1 l hl
  intro d
  induction d with
  | zero =>
    intro k n hk hn
    obtain ⟨n, rfl⟩ : ∃ m, n = m + 1 := ⟨n - 1, by omega⟩
    have hk : k = T (12 + 7 * l) := by omega
    subst hk
    simp (disch := omega) only [f_X7_paid_26, reduceIte, ↓reduceIte, gK, gR, gN, gIs, bR_s, bd_s, nm_s, ck, inb_nI, and_self, nI_clamp, fa_lit, pk_mul, nI_add, n10, n1z, n00, eq_self, not_true_eq_false, not_false_eq_true, hC, hB0, hT, hS, c2, nI_ltI, Nat.lt_succ_self]
  | succ d ih =>
    intro k n hk hn
    obtain ⟨n, rfl⟩ : ∃ m, n = m + 1 := ⟨n - 1, by omega⟩
    have hk2 : ¬ T (12 + 7 * l) < k + 1 := by omega
    have hp := p_sharePaid hQ hl (k := k) (by omega) hw6
    have hb := sh_le hW hw hl (k := k) (by omega) w
    have ih := ih (k + 1) n (by omega) (by omega)
    rw [fb_sm_succ] at ih
    simp (disch := omega) only [f_X7_paid_26, reduceIte, ↓reduceIte, gK, gR, gN, gIs, bR_s, bd_s, nm_s, ck, inb_nI, and_self, nI_clamp, fa_lit, pk_mul, nI_add, n10, n1z, n00, eq_self, not_true_eq_false, not_false_eq_true, hC, hB0, hT, hS, c2, p_spotOf, nI_ltI, hk2, hp, nI_l, lN_add]
    exact ih
theorem q_paid_lp (hQ : RQ B M T S c) (hl : l < T 0) : ∀ (d k n : Nat), k + d = T (12 + 7 * l) → d < n → f_X8_paid_56 n (B + 59) (nI l) (lN (fb_sm (fun k => shS T S l k 4) k)) (nI (k + 1)) M = some (lN (fb_sm (fun k => shS T S l k 4) (T (12 + 7 * l))), M) := by
  obtain ⟨hC, ht8, hn14, hW, hw, hc6⟩ := id hQ
  have w0 := hW.1
  have w1 := hW.2.1
  have a := (hW.2.2 l hl).2.1
  have v2 := hw.2.2.2.2.1 l hl
  have lo0 := q_loanOf hQ hl (w := 0) (by omega)
  intro d
  induction d with
  | zero =>
    intro k n hk hn
    obtain ⟨n, rfl⟩ : ∃ m, n = m + 1 := ⟨n - 1, by omega⟩
    have hk : k = T (12 + 7 * l) := by omega
    subst hk
    simp (disch := omega) only [f_X8_paid_56, reduceIte, ↓reduceIte, gK, gR, gN, gIs, bR_s, bd_s, nm_s, ck, inb_nI, and_self, nI_clamp, fa_lit, pk_mul, nI_add, n10, n1z, n00, eq_self, not_true_eq_false, not_false_eq_true, hC, lo0, Nat.add_zero, nI_ltI, Nat.lt_succ_self]
  | succ d ih =>
    intro k n hk hn
    obtain ⟨n, rfl⟩ : ∃ m, n = m + 1 := ⟨n - 1, by omega⟩
    have hk2 : ¬ T (12 + 7 * l) < k + 1 := by omega
    have n0 := hn14 (60 * l + k) (by omega)
    have hp := q_owedFor hQ hl (k := k) (by omega)
    have hb := sh_le hW hw hl (k := k) (by omega) 4
    have v3 := (v2 k (by omega)).1
    have ih := ih (k + 1) n (by omega) (by omega)
    rw [fb_sm_succ] at ih
    by_cases h : S (60 * l + k) = 1
    · simp only [shS, h, ite_true] at ih hb
      simp (disch := omega) only [f_X8_paid_56, reduceIte, ↓reduceIte, gK, gR, gN, gIs, bR_s, bd_s, nm_s, ck, inb_nI, and_self, nI_clamp, fa_lit, pk_mul, nI_add, n10, n1z, n00, eq_self, not_true_eq_false, not_false_eq_true, hC, lo0, Nat.add_zero, Nat.zero_add, p_bondAt, nI_ltI, nI_eq, hk2, n0, h, hp, nI_l, lN_add, shS]
      exact ih
    · simp only [shS, h, ite_false] at ih hb
      simp (disch := omega) only [f_X8_paid_56, reduceIte, ↓reduceIte, gK, gR, gN, gIs, bR_s, bd_s, nm_s, ck, inb_nI, and_self, nI_clamp, fa_lit, pk_mul, nI_add, n10, n1z, n00, eq_self, not_true_eq_false, not_false_eq_true, hC, lo0, Nat.add_zero, Nat.zero_add, p_bondAt, nI_ltI, nI_eq, hk2, n0, h, fa_litL, lN_add, shS]
      exact ih
theorem pr_paid (hcc : c + 1 ≤ 600) : Pr B c (f_X7_paid B x y) (f_X8_paid (B + 59) x y) := by
  refine pr_0 hcc (fun M t T S fed tp nd D im G hQ hR hX hY hA => ?_)
  have hR' := hR.th (j := 0) (v := nI 0)
  obtain ⟨hC, hB0, hT, hS, hW, hc, hs, hw, hc6⟩ := id hQ
  have hD := hR.1
  have hD' := hR'.1
  have w0 := hW.1
  have w1 := hW.2.1
  have rt' := hR'.2.1
  have rn' := hR'.2.2.1
  rcases ixL x (n := T 0) (by omega) with h | ⟨l, hl, rfl⟩
  · exact ⟨-1, by simp only [f_X7_paid, reduceIte, ↓reduceIte, gK, gR, gN, gIs, bR_s, bd_s, nm_s, ck, inb_nI, and_self, nI_clamp, fa_lit, pk_mul, nI_add, n10, n1z, n00, eq_self, not_true_eq_false, not_false_eq_true, hC, hB0, hT, hS, p_isLoan_n hQ h], by simp only [f_X8_paid, reduceIte, ↓reduceIte, gK, gR, gN, gIs, bR_s, bd_s, nm_s, ck, inb_nI, and_self, nI_clamp, fa_lit, pk_mul, nI_add, n10, n1z, n00, eq_self, not_true_eq_false, not_false_eq_true, hD, hD', q_isLoan_n hR' h]⟩
  have a := (hW.2.2 l hl).2.1
  rcases ixL y (n := 6) (by omega) with (h3 | ⟨h3, h4⟩) | ⟨w, hw6, rfl⟩
  · exact ⟨-lN 1, by simp only [f_X7_paid, reduceIte, ↓reduceIte, gK, gR, gN, gIs, bR_s, bd_s, nm_s, ck, inb_nI, and_self, nI_clamp, fa_lit, pk_mul, nI_add, n10, n1z, n00, eq_self, not_true_eq_false, not_false_eq_true, hC, hB0, hT, hS, p_isLoan_y hQ hl, h3, fa_litL], by simp (disch := omega) only [f_X8_paid, reduceIte, ↓reduceIte, gK, gR, gN, gIs, bR_s, bd_s, nm_s, ck, inb_nI, and_self, nI_clamp, fa_lit, pk_mul, nI_add, n10, n1z, n00, eq_self, not_true_eq_false, not_false_eq_true, hD, hD', q_isLoan_y hR' hl, fa_litL, wiN, h3]⟩
  · have h5 : nI 5 < y := by
      rw [fa_le] at h4
      rw [fa_lt]
      have a1 : (nI 6).toInt = 6 := by decide
      have a2 : (nI 5).toInt = 5 := by decide
      omega
    have h6 : ¬ y ≤ nI 5 := by
      rw [fa_le]; rw [fa_lt] at h5; omega
    exact ⟨-lN 1, by simp only [f_X7_paid, reduceIte, ↓reduceIte, gK, gR, gN, gIs, bR_s, bd_s, nm_s, ck, inb_nI, and_self, nI_clamp, fa_lit, pk_mul, nI_add, n10, n1z, n00, eq_self, not_true_eq_false, not_false_eq_true, hC, hB0, hT, hS, p_isLoan_y hQ hl, h3, h6, fa_litL], by simp (disch := omega) only [f_X8_paid, reduceIte, ↓reduceIte, gK, gR, gN, gIs, bR_s, bd_s, nm_s, ck, inb_nI, and_self, nI_clamp, fa_lit, pk_mul, nI_add, n10, n1z, n00, eq_self, not_true_eq_false, not_false_eq_true, hD, hD', q_isLoan_y hR' hl, fa_litL, wiN, h3, h5]⟩
  · have p := p_paid_lp hQ hl hw6 (T (12 + 7 * l)) 0 FU (by omega) (by unfold FU; omega)
    rw [show fb_sm (fun k => shS T S l k w) 0 = 0 from rfl] at p
    have a1 : ¬ w < 0 := by omega
    have a2 : w ≤ 5 := by omega
    have a3 : ¬ 5 < w := by omega
    have hb : fb_sm (fun k => shS T S l k w) (T (12 + 7 * l)) ≤ T (12 + 7 * l) * 10998 := fb_sm_bound (fun k hk => sh_le hW hw hl hk w)
    have hb2 : fb_sm (fun k => shS T S l k w) (T (12 + 7 * l)) < 2 ^ 31 := by omega
    have n3 := rn' (1383 + 6 * l + w) (by omega)
    refine ⟨lN (fb_sm (fun k => shS T S l k w) (T (12 + 7 * l))), by simp (disch := omega) only [f_X7_paid, reduceIte, ↓reduceIte, gK, gR, gN, gIs, bR_s, bd_s, nm_s, ck, inb_nI, and_self, nI_clamp, fa_lit, pk_mul, nI_add, n10, n1z, n00, eq_self, not_true_eq_false, not_false_eq_true, hC, hB0, hT, hS, p_isLoan_y hQ hl, nI_ltI, nI_leI, a1, a2, Nat.zero_add, fa_litL] at p ⊢; exact p, ?_⟩
    by_cases h4 : w = 4
    · subst h4
      have q := q_paid_lp hR' hl (T (12 + 7 * l)) 0 FU (by omega) (by unfold FU; omega)
      rw [show fb_sm (fun k => shS T S l k 4) 0 = 0 from rfl] at q
      simp (disch := omega) only [f_X8_paid, reduceIte, ↓reduceIte, gK, gR, gN, gIs, bR_s, bd_s, nm_s, ck, inb_nI, and_self, nI_clamp, fa_lit, pk_mul, nI_add, n10, n1z, n00, eq_self, not_true_eq_false, not_false_eq_true, hD, hD', q_isLoan_y hR' hl, fa_litL, wiN, nI_ltI, nI_eq, a1, a3, Nat.zero_add] at q ⊢
      exact q
    · have hS6 := hw.2.2.2.2.2.1 l hl w hw6 h4
      rw [hS6] at n3
      simp (disch := omega) only [f_X8_paid, reduceIte, ↓reduceIte, gK, gR, gN, gIs, bR_s, bd_s, nm_s, ck, inb_nI, and_self, nI_clamp, fa_lit, pk_mul, nI_add, n10, n1z, n00, eq_self, not_true_eq_false, not_false_eq_true, hD, hD', q_isLoan_y hR' hl, fa_litL, wiN, nI_ltI, nI_eq, a1, a3, h4, n3]
      rw [nI_l hb2]
end ASK4
