theorem NL_ne {x : Int32} {n j : Nat} (hn : n < 2 ^ 31) (h : NL x n) (hj : j < n) : ¬ x = nI j := by
  intro e
  subst e
  rcases h with h | ⟨-, h⟩
  · rw [nI_ltI (by omega) (by omega)] at h; omega
  · rw [nI_leI (by omega) (by omega)] at h; omega
section ASK
variable {B t l k c : Nat} {T S : Nat → Nat} {M : Mm} {x y z : Int32}
theorem pr_cash (hcc : c + 1 ≤ 600) : Pr B c (f_X7_cash B x) (f_X8_cash (B + 59) x) := by
  refine pr_0 hcc (fun M t T S fed tp nd D im G hQ hR hX hY hA => ?_)
  have hR' := hR.th (j := 0) (v := nI 0)
  obtain ⟨hC, hB0, hT, hS, hW, hc, hs, hw, hc6⟩ := id hQ
  have hD := hR.1
  have hD' := hR'.1
  have w0 := hW.1
  have w1 := hW.2.1
  have rt' := hR'.2.1
  have rn' := hR'.2.2.1
  rcases ixL x (n := T 1) (by omega) with h | ⟨h, hh, rfl⟩
  · exact ⟨-nI 1, by simp only [f_X7_cash, gK, gR, gN, gIs, bR_s, bd_s, nm_s, ck, inb_nI, and_self, ite_true, ite_false, nI_clamp, fa_lit, pk_mul, nI_add, n10, n1z, n00, eq_self, not_true_eq_false, not_false_eq_true, hC, hB0, hT, hS, p_isHolder_n hQ h], by simp only [f_X8_cash, gK, gR, gN, gIs, bR_s, bd_s, nm_s, ck, inb_nI, and_self, ite_true, ite_false, nI_clamp, fa_lit, pk_mul, nI_add, n10, n1z, n00, eq_self, not_true_eq_false, not_false_eq_true, hD, hD', q_isHolder_n hR' h]⟩
  · have e1 := hs.2.1 h hh
    have e2 := rn' (1200 + h) (by omega)
    exact ⟨nI (S (1200 + h)), by simp (disch := omega) only [f_X7_cash, gK, gR, gN, gIs, bR_s, bd_s, nm_s, ck, inb_nI, and_self, ite_true, ite_false, nI_clamp, fa_lit, pk_mul, nI_add, n10, n1z, n00, eq_self, not_true_eq_false, not_false_eq_true, hC, hB0, hT, hS, p_isHolder_y hQ hh, e1], by simp (disch := omega) only [f_X8_cash, gK, gR, gN, gIs, bR_s, bd_s, nm_s, ck, inb_nI, and_self, ite_true, ite_false, nI_clamp, fa_lit, pk_mul, nI_add, n10, n1z, n00, eq_self, not_true_eq_false, not_false_eq_true, hD, hD', q_isHolder_y hR' hh, e2]⟩
theorem pr_below (hcc : c + 1 ≤ 600) : Pr B c (f_X7_below B) (f_X8_below (B + 59)) := by
  intro M ⟨t, T, S, fed, tp, nd, D, im, G, h1, h2, h3, h4, h5, h6⟩
  have hC := h1.1
  have hD := h2.1
  have hD' := (h2.th (j := 0) (v := nI 0)).1
  refine ⟨M.2.1 B 6, M, by simp only [f_X7_below, gK, gR, gN, gIs, bR_s, bd_s, nm_s, ck, inb_nI, and_self, ite_true, ite_false, nI_clamp, fa_lit, pk_mul, nI_add, n10, n1z, n00, eq_self, not_true_eq_false, not_false_eq_true, hC, gL], h2.1.1, M.2.1 B 6, sI M (B + 59) 0 (nI 0), ?_, rfl, ?_⟩
  · simp only [f_X8_below, gK, gR, gN, gIs, bR_s, bd_s, nm_s, ck, inb_nI, and_self, ite_true, ite_false, nI_clamp, fa_lit, pk_mul, nI_add, n10, n1z, n00, eq_self, not_true_eq_false, not_false_eq_true, hD, hD', gL]
    rw [h6]
    rfl
  · refine inv_q ⟨h1, h2, h3, h4, h5⟩ hcc KC.rf ⟨rfl, fun a ha _ _ => sI_ne ha, ?_, ?_, rfl⟩ h6
    · show (if _ ∧ 2 = 0 then _ else _) = _
      rw [if_neg (by omega)]
    · show (if _ ∧ 23 = 0 then _ else _) = _
      rw [if_neg (by omega)]
theorem pr_held (hcc : c + 1 ≤ 600) : Pr B c (f_X7_held B x y z) (f_X8_held (B + 59) x y z) := by
  refine pr_0 hcc (fun M t T S fed tp nd D im G hQ hR hX hY hA => ?_)
  have hR' := hR.th (j := 0) (v := nI 0)
  obtain ⟨hC, hB0, hT, hS, hW, hc, hs, hw, hc6⟩ := id hQ
  have hD := hR.1
  have hD' := hR'.1
  have w0 := hW.1
  have w1 := hW.2.1
  have rt' := hR'.2.1
  have rn' := hR'.2.2.1
  rcases ixL x (n := T 1) (by omega) with h | ⟨h, hh, rfl⟩
  · exact ⟨-nI 1, by simp only [f_X7_held, gK, gR, gN, gIs, bR_s, bd_s, nm_s, ck, inb_nI, and_self, ite_true, ite_false, nI_clamp, fa_lit, pk_mul, nI_add, n10, n1z, n00, eq_self, not_true_eq_false, not_false_eq_true, hC, hB0, hT, hS, p_isHolder_n hQ h], by simp only [f_X8_held, gK, gR, gN, gIs, bR_s, bd_s, nm_s, ck, inb_nI, and_self, ite_true, ite_false, nI_clamp, fa_lit, pk_mul, nI_add, n10, n1z, n00, eq_self, not_true_eq_false, not_false_eq_true, hD, hD', q_isHolder_n hR' h]⟩
  rcases ixL y (n := T 0) (by omega) with h2 | ⟨l, hl, rfl⟩
  · exact ⟨-nI 1, by simp only [f_X7_held, gK, gR, gN, gIs, bR_s, bd_s, nm_s, ck, inb_nI, and_self, ite_true, ite_false, nI_clamp, fa_lit, pk_mul, nI_add, n10, n1z, n00, eq_self, not_true_eq_false, not_false_eq_true, hC, hB0, hT, hS, p_isHolder_y hQ hh, p_isLoan_n hQ h2], by simp only [f_X8_held, gK, gR, gN, gIs, bR_s, bd_s, nm_s, ck, inb_nI, and_self, ite_true, ite_false, nI_clamp, fa_lit, pk_mul, nI_add, n10, n1z, n00, eq_self, not_true_eq_false, not_false_eq_true, hD, hD', q_isHolder_y hR' hh, q_isLoan_n hR' h2]⟩
  have w := hW.2.2 l hl
  rcases ixL z (n := 5) (by omega) with (h3 | ⟨h3, h4⟩) | ⟨st, hst, rfl⟩
  · exact ⟨-nI 1, by simp only [f_X7_held, gK, gR, gN, gIs, bR_s, bd_s, nm_s, ck, inb_nI, and_self, ite_true, ite_false, nI_clamp, fa_lit, pk_mul, nI_add, n10, n1z, n00, eq_self, not_true_eq_false, not_false_eq_true, hC, hB0, hT, hS, p_isHolder_y hQ hh, p_isLoan_y hQ hl, h3], by simp (disch := omega) only [f_X8_held, gK, gR, gN, gIs, bR_s, bd_s, nm_s, ck, inb_nI, and_self, ite_true, ite_false, nI_clamp, fa_lit, pk_mul, nI_add, n10, n1z, n00, eq_self, not_true_eq_false, not_false_eq_true, hD, hD', q_isHolder_y hR' hh, q_isLoan_y hR' hl, fa_litL, wiN, h3]⟩
  · have h5 : nI 4 < z := by
      rw [fa_le] at h4
      rw [fa_lt]
      have a1 : (nI 4).toInt = 4 := by decide
      have a2 : (nI 5).toInt = 5 := by decide
      omega
    have h6 : ¬ z ≤ nI 4 := by
      rw [fa_le]; rw [fa_lt] at h5; omega
    exact ⟨-nI 1, by simp only [f_X7_held, gK, gR, gN, gIs, bR_s, bd_s, nm_s, ck, inb_nI, and_self, ite_true, ite_false, nI_clamp, fa_lit, pk_mul, nI_add, n10, n1z, n00, eq_self, not_true_eq_false, not_false_eq_true, hC, hB0, hT, hS, p_isHolder_y hQ hh, p_isLoan_y hQ hl, h3, h6], by simp (disch := omega) only [f_X8_held, gK, gR, gN, gIs, bR_s, bd_s, nm_s, ck, inb_nI, and_self, ite_true, ite_false, nI_clamp, fa_lit, pk_mul, nI_add, n10, n1z, n00, eq_self, not_true_eq_false, not_false_eq_true, hD, hD', q_isHolder_y hR' hh, q_isLoan_y hR' hl, fa_litL, wiN, h3, h5]⟩
  · have q := q_held_lp hR' hl (st := st) (h := h) (by omega) (by omega) (T (12 + 7 * l)) 0 FU (by omega) (by unfold FU; omega)
    rw [show fb_ct (fun k => decide (S (60 * l + k) = st) && decide (S (240 + 60 * l + k) = h + 1)) 0 = 0 from rfl] at q
    have a1 : ¬ st < 0 := by omega
    have a2 : st ≤ 4 := by omega
    have a3 : ¬ 4 < st := by omega
    exact ⟨nI (fb_ct (fun k => decide (S (60 * l + k) = st) && decide (S (240 + 60 * l + k) = h + 1)) (T (12 + 7 * l))), by simp (disch := omega) only [f_X7_held, gK, gR, gN, gIs, bR_s, bd_s, nm_s, ck, inb_nI, and_self, ite_true, ite_false, nI_clamp, fa_lit, pk_mul, nI_add, n10, n1z, n00, eq_self, not_true_eq_false, not_false_eq_true, hC, hB0, hT, hS, p_isHolder_y hQ hh, p_isLoan_y hQ hl, nI_ltI, nI_leI, a1, a2, p_countHeld hQ hl], by simp (disch := omega) only [f_X8_held, gK, gR, gN, gIs, bR_s, bd_s, nm_s, ck, inb_nI, and_self, ite_true, ite_false, nI_clamp, fa_lit, pk_mul, nI_add, n10, n1z, n00, eq_self, not_true_eq_false, not_false_eq_true, hD, hD', q_isHolder_y hR' hh, q_isLoan_y hR' hl, fa_litL, wiN, nI_ltI, nI_leI, a1, a3, Nat.zero_add, q]⟩
theorem pr_price (hcc : c + 1 ≤ 600) : Pr B c (f_X7_price B x y) (f_X8_price (B + 59) x y) := by
  refine pr_0 hcc (fun M t T S fed tp nd D im G hQ hR hX hY hA => ?_)
  have hR' := hR.th (j := 0) (v := nI 0)
  obtain ⟨hC, hB0, hT, hS, hW, hc, hs, hw, hc6⟩ := id hQ
  have hD := hR.1
  have hD' := hR'.1
  have w0 := hW.1
  have w1 := hW.2.1
  have rt' := hR'.2.1
  have rn' := hR'.2.2.1
  rcases ixL x (n := T 0) (by omega) with h | ⟨l, hl, rfl⟩
  · exact ⟨-nI 1, by simp only [f_X7_price, gK, gR, gN, gIs, bR_s, bd_s, nm_s, ck, inb_nI, and_self, ite_true, ite_false, nI_clamp, fa_lit, pk_mul, nI_add, n10, n1z, n00, eq_self, not_true_eq_false, not_false_eq_true, hC, hB0, hT, hS, p_isLoan_n hQ h], by simp only [f_X8_price, gK, gR, gN, gIs, bR_s, bd_s, nm_s, ck, inb_nI, and_self, ite_true, ite_false, nI_clamp, fa_lit, pk_mul, nI_add, n10, n1z, n00, eq_self, not_true_eq_false, not_false_eq_true, hD, hD', q_isYear_0 hR' h]⟩
  have w := hW.2.2 l hl
  have c2 := hc.2.2.1 l hl
  rcases ixN y (n := T (12 + 7 * l + 3)) (by omega) with h2 | ⟨k, hk, rfl⟩
  · refine ⟨-nI 1, ?_, by simp only [f_X8_price, gK, gR, gN, gIs, bR_s, bd_s, nm_s, ck, inb_nI, and_self, ite_true, ite_false, nI_clamp, fa_lit, pk_mul, nI_add, n10, n1z, n00, eq_self, not_true_eq_false, not_false_eq_true, hD, hD', q_isYear_n hR' hl h2]⟩
    rcases h2 with h2 | ⟨h2, h3⟩
    · simp only [f_X7_price, gK, gR, gN, gIs, bR_s, bd_s, nm_s, ck, inb_nI, and_self, ite_true, ite_false, nI_clamp, fa_lit, pk_mul, nI_add, n10, n1z, n00, eq_self, not_true_eq_false, not_false_eq_true, hC, hB0, hT, hS, p_isLoan_y hQ hl, h2]
    · have h4 : ¬ y ≤ nI (T (12 + 7 * l + 3)) := by
        rw [fa_le]; rw [fa_lt] at h3; omega
      simp (disch := omega) only [f_X7_price, gK, gR, gN, gIs, bR_s, bd_s, nm_s, ck, inb_nI, and_self, ite_true, ite_false, nI_clamp, fa_lit, pk_mul, nI_add, n10, n1z, n00, eq_self, not_true_eq_false, not_false_eq_true, hC, hB0, hT, hS, p_isLoan_y hQ hl, h2, c2, h4]
  · have s3 := hs.2.2.2.1 l hl (k + 1) (by omega) (by omega)
    have a1 : ¬ k + 1 < 1 := by omega
    have a2 : k + 1 ≤ T (12 + 7 * l + 3) := by omega
    exact ⟨nI (prS T S l (k + 1)), by simp (disch := omega) only [f_X7_price, gK, gR, gN, gIs, bR_s, bd_s, nm_s, ck, inb_nI, and_self, ite_true, ite_false, nI_clamp, fa_lit, pk_mul, nI_add, n10, n1z, n00, eq_self, not_true_eq_false, not_false_eq_true, hC, hB0, hT, hS, p_isLoan_y hQ hl, nI_ltI, nI_leI, a1, a2, c2, p_cellOf, s3], by simp (disch := omega) only [f_X8_price, gK, gR, gN, gIs, bR_s, bd_s, nm_s, ck, inb_nI, and_self, ite_true, ite_false, nI_clamp, fa_lit, pk_mul, nI_add, n10, n1z, n00, eq_self, not_true_eq_false, not_false_eq_true, hD, hD', q_isYear_y hR' hl hk, q_priceOf hR' hl hk]⟩
theorem pr_standing (hcc : c + 1 ≤ 600) : Pr B c (f_X7_standing B x y z) (f_X8_standing (B + 59) x y z) := by
  refine pr_0 hcc (fun M t T S fed tp nd D im G hQ hR hX hY hA => ?_)
  have hR' := hR.th (j := 0) (v := nI 0)
  obtain ⟨hC, hB0, hT, hS, hW, hc, hs, hw, hc6⟩ := id hQ
  have hD := hR.1
  have hD' := hR'.1
  have w0 := hW.1
  have w1 := hW.2.1
  have rt' := hR'.2.1
  have rn' := hR'.2.2.1
  rcases ixL x (n := T 0) (by omega) with h | ⟨l, hl, rfl⟩
  · exact ⟨-nI 1, by simp only [f_X7_standing, gK, gR, gN, gIs, bR_s, bd_s, nm_s, ck, inb_nI, and_self, ite_true, ite_false, nI_clamp, fa_lit, pk_mul, nI_add, n10, n1z, n00, eq_self, not_true_eq_false, not_false_eq_true, hC, hB0, hT, hS, p_isBond_0 hQ h], by simp only [f_X8_standing, gK, gR, gN, gIs, bR_s, bd_s, nm_s, ck, inb_nI, and_self, ite_true, ite_false, nI_clamp, fa_lit, pk_mul, nI_add, n10, n1z, n00, eq_self, not_true_eq_false, not_false_eq_true, hD, hD', q_isBond_0 hR' h]⟩
  have w := hW.2.2 l hl
  rcases ixN z (n := T (12 + 7 * l)) (by omega) with h2 | ⟨k, hk, rfl⟩
  · exact ⟨-nI 1, by simp only [f_X7_standing, gK, gR, gN, gIs, bR_s, bd_s, nm_s, ck, inb_nI, and_self, ite_true, ite_false, nI_clamp, fa_lit, pk_mul, nI_add, n10, n1z, n00, eq_self, not_true_eq_false, not_false_eq_true, hC, hB0, hT, hS, p_isBond_n hQ hl h2], by simp only [f_X8_standing, gK, gR, gN, gIs, bR_s, bd_s, nm_s, ck, inb_nI, and_self, ite_true, ite_false, nI_clamp, fa_lit, pk_mul, nI_add, n10, n1z, n00, eq_self, not_true_eq_false, not_false_eq_true, hD, hD', q_isBond_n hR' hl h2]⟩
  have key : ∀ g : Nat, g < 8 → y = nI g - nI 1 → f_X7_standing_27 FU B (nI l) y (nI (k + 1)) M = some (ofnd (-nI 2) (fnd (fun k => decide (S (60 * l + k) = 0) && decide (S (240 + 60 * l + k) = g)) (T (12 + 7 * l) - k) k), M) ∧ f_X8_standing_32 FU (B + 59) (nI l) y (nI (k + 1)) (sI M (B + 59) 0 (nI 0)) = some (ofnd (-nI 2) (fnd (fun k => decide (S (60 * l + k) = 0) && decide (S (240 + 60 * l + k) = g)) (T (12 + 7 * l) - k) k), sI M (B + 59) 0 (nI 0)) := by
    intro g hg e
    subst e
    exact ⟨p_standing_lp hQ hl (g := g) (by omega) (T (12 + 7 * l) - k) k FU (by omega) (by unfold FU; omega), q_standing_lp hR' hl (g := g) (by omega) (T (12 + 7 * l) - k) k FU (by omega) (by unfold FU; omega)⟩
  by_cases hy : y = -nI 1
  · have q := key 0 (by omega) (by rw [hy]; decide)
    exact ⟨_, by simp only [f_X7_standing, gK, gR, gN, gIs, bR_s, bd_s, nm_s, ck, inb_nI, and_self, ite_true, ite_false, nI_clamp, fa_lit, pk_mul, nI_add, n10, n1z, n00, eq_self, not_true_eq_false, not_false_eq_true, hC, hB0, hT, hS, p_isBond_y hQ hl hk, hy] at q ⊢; exact q.1, by simp only [f_X8_standing, gK, gR, gN, gIs, bR_s, bd_s, nm_s, ck, inb_nI, and_self, ite_true, ite_false, nI_clamp, fa_lit, pk_mul, nI_add, n10, n1z, n00, eq_self, not_true_eq_false, not_false_eq_true, hD, hD', q_isBond_y hR' hl hk, hy] at q ⊢; exact q.2⟩
  · rcases ixL y (n := T 1) (by omega) with h3 | ⟨h, hh, rfl⟩
    · exact ⟨-nI 1, by simp only [f_X7_standing, gK, gR, gN, gIs, bR_s, bd_s, nm_s, ck, inb_nI, and_self, ite_true, ite_false, nI_clamp, fa_lit, pk_mul, nI_add, n10, n1z, n00, eq_self, not_true_eq_false, not_false_eq_true, hC, hB0, hT, hS, p_isBond_y hQ hl hk, hy, p_isHolder_n hQ h3], by simp only [f_X8_standing, gK, gR, gN, gIs, bR_s, bd_s, nm_s, ck, inb_nI, and_self, ite_true, ite_false, nI_clamp, fa_lit, pk_mul, nI_add, n10, n1z, n00, eq_self, not_true_eq_false, not_false_eq_true, hD, hD', q_isBond_y hR' hl hk, hy, q_isHolder_n hR' h3]⟩
    · have q := key (h + 1) (by omega) (by rw [pk_sub (by omega)]; rfl)
      exact ⟨_, by simp only [f_X7_standing, gK, gR, gN, gIs, bR_s, bd_s, nm_s, ck, inb_nI, and_self, ite_true, ite_false, nI_clamp, fa_lit, pk_mul, nI_add, n10, n1z, n00, eq_self, not_true_eq_false, not_false_eq_true, hC, hB0, hT, hS, p_isBond_y hQ hl hk, hy, p_isHolder_y hQ hh]; exact q.1, by simp only [f_X8_standing, gK, gR, gN, gIs, bR_s, bd_s, nm_s, ck, inb_nI, and_self, ite_true, ite_false, nI_clamp, fa_lit, pk_mul, nI_add, n10, n1z, n00, eq_self, not_true_eq_false, not_false_eq_true, hD, hD', q_isBond_y hR' hl hk, hy, q_isHolder_y hR' hh]; exact q.2⟩
theorem pr_lot (hcc : c + 1 ≤ 600) : Pr B c (f_X7_lot B x y z) (f_X8_lot (B + 59) x y z) := by
  refine pr_0 hcc (fun M t T S fed tp nd D im G hQ hR hX hY hA => ?_)
  have hR' := hR.th (j := 0) (v := nI 0)
  obtain ⟨hC, hB0, hT, hS, hW, hc, hs, hw, hc6⟩ := id hQ
  have hD := hR.1
  have hD' := hR'.1
  have w0 := hW.1
  have w1 := hW.2.1
  have rt' := hR'.2.1
  have rn' := hR'.2.2.1
  rcases ixL x (n := T 0) (by omega) with h | ⟨l, hl, rfl⟩
  · exact ⟨-nI 1, by simp only [f_X7_lot, gK, gR, gN, gIs, bR_s, bd_s, nm_s, ck, inb_nI, and_self, ite_true, ite_false, nI_clamp, fa_lit, pk_mul, nI_add, n10, n1z, n00, eq_self, not_true_eq_false, not_false_eq_true, hC, hB0, hT, hS, p_isPassed_0 hQ h], by simp only [f_X8_lot, gK, gR, gN, gIs, bR_s, bd_s, nm_s, ck, inb_nI, and_self, ite_true, ite_false, nI_clamp, fa_lit, pk_mul, nI_add, n10, n1z, n00, eq_self, not_true_eq_false, not_false_eq_true, hD, hD', q_isPassed_0 hR' h]⟩
  have w := hW.2.2 l hl
  rcases ixN y (n := T (12 + 7 * l + 3)) (by omega) with h2 | ⟨k, hk, rfl⟩
  · exact ⟨-nI 1, by simp only [f_X7_lot, gK, gR, gN, gIs, bR_s, bd_s, nm_s, ck, inb_nI, and_self, ite_true, ite_false, nI_clamp, fa_lit, pk_mul, nI_add, n10, n1z, n00, eq_self, not_true_eq_false, not_false_eq_true, hC, hB0, hT, hS, p_isPassed_n hQ hl h2], by simp only [f_X8_lot, gK, gR, gN, gIs, bR_s, bd_s, nm_s, ck, inb_nI, and_self, ite_true, ite_false, nI_clamp, fa_lit, pk_mul, nI_add, n10, n1z, n00, eq_self, not_true_eq_false, not_false_eq_true, hD, hD', q_isPassed_n hR' hl h2]⟩
  by_cases hp : S 1206 < k + 1
  · exact ⟨-nI 1, by simp only [f_X7_lot, gK, gR, gN, gIs, bR_s, bd_s, nm_s, ck, inb_nI, and_self, ite_true, ite_false, nI_clamp, fa_lit, pk_mul, nI_add, n10, n1z, n00, eq_self, not_true_eq_false, not_false_eq_true, hC, hB0, hT, hS, p_isPassed_m hQ hl hk hp], by simp only [f_X8_lot, gK, gR, gN, gIs, bR_s, bd_s, nm_s, ck, inb_nI, and_self, ite_true, ite_false, nI_clamp, fa_lit, pk_mul, nI_add, n10, n1z, n00, eq_self, not_true_eq_false, not_false_eq_true, hD, hD', q_isPassed_m hR' hl hk hp]⟩
  have hp : k + 1 ≤ S 1206 := by omega
  have hk2 : k + 1 < 2 ^ 31 := by omega
  by_cases h0 : nI 0 ≤ z
  · obtain ⟨r, hr, rfl⟩ := nI_of (x := z) (by rw [fa_lt]; rw [fa_le] at h0; have a1 : (nI 0).toInt = 0 := by decide
                                              have a2 : (0 : Int32).toInt = 0 := by decide
                                              omega)
    by_cases hr0 : r = 0
    · subst hr0
      exact ⟨nI (fb_ct (fun j => decide (S (480 + 60 * l + j) = k + 1)) (T (12 + 7 * l))), by simp only [f_X7_lot, gK, gR, gN, gIs, bR_s, bd_s, nm_s, ck, inb_nI, and_self, ite_true, ite_false, nI_clamp, fa_lit, pk_mul, nI_add, n10, n1z, n00, eq_self, not_true_eq_false, not_false_eq_true, hC, hB0, hT, hS, p_isPassed_y hQ hl hk hp, h0, p_countRetired hQ hl hk2], by simp only [f_X8_lot, gK, gR, gN, gIs, bR_s, bd_s, nm_s, ck, inb_nI, and_self, ite_true, ite_false, nI_clamp, fa_lit, pk_mul, nI_add, n10, n1z, n00, eq_self, not_true_eq_false, not_false_eq_true, hD, hD', q_isPassed_y hR' hl hk hp, h0, q_lotMany hR' hl hk2]⟩
    · have hr1 : ¬ nI r = nI 0 := by rw [nI_eq hr (by omega)]; exact hr0
      have q1 := p_drawnAs hQ hl hk2 hr
      have q2 := q_inLot hR' hl hk2 hr
      cases hf : fnd (fun k_1 => decide (S (480 + 60 * l + k_1) = k + 1) && decide (S (720 + 60 * l + k_1) = r)) (T (12 + 7 * l)) 0 with
      | none =>
        rw [hf] at q1 q2
        exact ⟨-nI 1, by simp only [f_X7_lot, gK, gR, gN, gIs, bR_s, bd_s, nm_s, ck, inb_nI, and_self, ite_true, ite_false, nI_clamp, fa_lit, pk_mul, nI_add, n10, n1z, n00, eq_self, not_true_eq_false, not_false_eq_true, hC, hB0, hT, hS, p_isPassed_y hQ hl hk hp, h0, hr1, q1, ofnd], by simp only [f_X8_lot, gK, gR, gN, gIs, bR_s, bd_s, nm_s, ck, inb_nI, and_self, ite_true, ite_false, nI_clamp, fa_lit, pk_mul, nI_add, n10, n1z, n00, eq_self, not_true_eq_false, not_false_eq_true, hD, hD', q_isPassed_y hR' hl hk hp, h0, hr1, q2, ofnd]⟩
      | some j =>
        rw [hf] at q1 q2
        have hj := fnd_lt hf
        have hj0 : ¬ nI (j + 1) = nI 0 := by rw [nI_eq (by omega) (by omega)]; omega
        exact ⟨nI (j + 1), by simp only [f_X7_lot, gK, gR, gN, gIs, bR_s, bd_s, nm_s, ck, inb_nI, and_self, ite_true, ite_false, nI_clamp, fa_lit, pk_mul, nI_add, n10, n1z, n00, eq_self, not_true_eq_false, not_false_eq_true, hC, hB0, hT, hS, p_isPassed_y hQ hl hk hp, h0, hr1, q1, ofnd, hj0], by simp only [f_X8_lot, gK, gR, gN, gIs, bR_s, bd_s, nm_s, ck, inb_nI, and_self, ite_true, ite_false, nI_clamp, fa_lit, pk_mul, nI_add, n10, n1z, n00, eq_self, not_true_eq_false, not_false_eq_true, hD, hD', q_isPassed_y hR' hl hk hp, h0, hr1, q2, ofnd]⟩
  · exact ⟨-nI 1, by simp only [f_X7_lot, gK, gR, gN, gIs, bR_s, bd_s, nm_s, ck, inb_nI, and_self, ite_true, ite_false, nI_clamp, fa_lit, pk_mul, nI_add, n10, n1z, n00, eq_self, not_true_eq_false, not_false_eq_true, hC, hB0, hT, hS, p_isPassed_y hQ hl hk hp, h0], by simp only [f_X8_lot, gK, gR, gN, gIs, bR_s, bd_s, nm_s, ck, inb_nI, and_self, ite_true, ite_false, nI_clamp, fa_lit, pk_mul, nI_add, n10, n1z, n00, eq_self, not_true_eq_false, not_false_eq_true, hD, hD', q_isPassed_y hR' hl hk hp, h0]⟩
end ASK
