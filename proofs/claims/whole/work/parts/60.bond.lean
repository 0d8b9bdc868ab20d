section ASK2
variable {B t l k c : Nat} {T S : Nat → Nat} {M : Mm} {x y z : Int32}
set_option maxHeartbeats 4000000 in
theorem pr_bond (hcc : c + 1 ≤ 600) : Pr B c (f_X7_bond B x y z) (f_X8_bond (B + 59) x y z) := by
  refine pr_0 hcc (fun M t T S fed tp nd D im G hQ hR hX hY hA => ?_)
  have hR' := hR.th (j := 0) (v := nI 0)
  obtain ⟨hC, hB0, hT, hS, hW, hc, hs, hw, hc6⟩ := id hQ
  have hD := hR.1
  have hD' := hR'.1
  have w0 := hW.1
  have w1 := hW.2.1
  have rt' := hR'.2.1
  have rn' := hR'.2.2.1
  rcases ixL x (n := T 0) (by omega) with h | ⟨l, hl, rfl⟩
  · exact ⟨-nI 2, by simp only [f_X7_bond, gK, gR, gN, gIs, bR_s, bd_s, nm_s, ck, inb_nI, and_self, ite_true, ite_false, nI_clamp, fa_lit, pk_mul, nI_add, n10, n1z, n00, eq_self, not_true_eq_false, not_false_eq_true, hC, hB0, hT, hS, p_isBond_0 hQ h], by simp only [f_X8_bond, gK, gR, gN, gIs, bR_s, bd_s, nm_s, ck, inb_nI, and_self, ite_true, ite_false, nI_clamp, fa_lit, pk_mul, nI_add, n10, n1z, n00, eq_self, not_true_eq_false, not_false_eq_true, hD, hD', q_isBond_0 hR' h]⟩
  have w := hW.2.2 l hl
  rcases ixN y (n := T (12 + 7 * l)) (by omega) with h2 | ⟨k, hk, rfl⟩
  · exact ⟨-nI 2, by simp only [f_X7_bond, gK, gR, gN, gIs, bR_s, bd_s, nm_s, ck, inb_nI, and_self, ite_true, ite_false, nI_clamp, fa_lit, pk_mul, nI_add, n10, n1z, n00, eq_self, not_true_eq_false, not_false_eq_true, hC, hB0, hT, hS, p_isBond_n hQ hl h2], by simp only [f_X8_bond, gK, gR, gN, gIs, bR_s, bd_s, nm_s, ck, inb_nI, and_self, ite_true, ite_false, nI_clamp, fa_lit, pk_mul, nI_add, n10, n1z, n00, eq_self, not_true_eq_false, not_false_eq_true, hD, hD', q_isBond_n hR' hl h2]⟩
  have s3 := hs.2.2.2.2 l hl k hk
  have v := hw.2.2.2.2.1 l hl k hk
  rcases ixL z (n := 5) (by omega) with h3 | ⟨st, hst, rfl⟩
  · have z0 := NL_ne (by omega) h3 (j := 0) (by omega)
    have z1 := NL_ne (by omega) h3 (j := 1) (by omega)
    have z2 := NL_ne (by omega) h3 (j := 2) (by omega)
    have z3 := NL_ne (by omega) h3 (j := 3) (by omega)
    have z4 := NL_ne (by omega) h3 (j := 4) (by omega)
    refine ⟨-nI 2, by simp only [f_X7_bond, gK, gR, gN, gIs, bR_s, bd_s, nm_s, ck, inb_nI, and_self, ite_true, ite_false, nI_clamp, fa_lit, pk_mul, nI_add, n10, n1z, n00, eq_self, not_true_eq_false, not_false_eq_true, hC, hB0, hT, hS, p_isBond_y hQ hl hk, p_spotOf, z0, z1, z2, z3, z4], ?_⟩
    rcases h3 with h3 | ⟨h3, h4⟩
    · simp (disch := omega) only [f_X8_bond, gK, gR, gN, gIs, bR_s, bd_s, nm_s, ck, inb_nI, and_self, ite_true, ite_false, nI_clamp, fa_lit, pk_mul, nI_add, n10, n1z, n00, eq_self, not_true_eq_false, not_false_eq_true, hD, hD', q_isBond_y hR' hl hk, fa_litL, wiN, h3]
    · have h5 : nI 4 < z := by
        rw [fa_le] at h4
        rw [fa_lt]
        have a1 : (nI 4).toInt = 4 := by decide
        have a2 : (nI 5).toInt = 5 := by decide
        omega
      simp (disch := omega) only [f_X8_bond, gK, gR, gN, gIs, bR_s, bd_s, nm_s, ck, inb_nI, and_self, ite_true, ite_false, nI_clamp, fa_lit, pk_mul, nI_add, n10, n1z, n00, eq_self, not_true_eq_false, not_false_eq_true, hD, hD', q_isBond_y hR' hl hk, fa_litL, wiN, h3, h5]
  · have n0 := rn' (60 * l + k) (by omega)
    have n1 := rn' (240 + 60 * l + k) (by omega)
    have n2 := rn' (480 + 60 * l + k) (by omega)
    have n3 := rn' (720 + 60 * l + k) (by omega)
    have n4 := rn' (960 + 60 * l + k) (by omega)
    have a1 : ¬ st < 0 := by omega
    have a3 : ¬ 4 < st := by omega
    have g0 := p_sharePaid hQ hl hk (w := 0) (by omega)
    have g1 := p_sharePaid hQ hl hk (w := 1) (by omega)
    have g2 := p_sharePaid hQ hl hk (w := 2) (by omega)
    have hg := v.2.2.2.2.2.2.2.2.2
    rcases (show st = 0 ∨ st = 1 ∨ st = 2 ∨ st = 3 ∨ st = 4 by omega) with rfl | rfl | rfl | rfl | rfl
    · exact ⟨nI (S (60 * l + k)), by simp (disch := omega) only [Nat.reduceEqDiff, Nat.reduceLT, Nat.reduceMul, Nat.not_lt_zero, f_X7_bond, gK, gR, gN, gIs, bR_s, bd_s, nm_s, ck, inb_nI, and_self, ite_true, ite_false, nI_clamp, fa_lit, pk_mul, nI_add, n10, n1z, n00, eq_self, not_true_eq_false, not_false_eq_true, hC, hB0, hT, hS, p_isBond_y hQ hl hk, p_spotOf, s3, nI_eq], by simp (disch := omega) only [Nat.reduceEqDiff, Nat.reduceLT, Nat.reduceMul, Nat.not_lt_zero, f_X8_bond, gK, gR, gN, gIs, bR_s, bd_s, nm_s, ck, inb_nI, and_self, ite_true, ite_false, nI_clamp, fa_lit, pk_mul, nI_add, n10, n1z, n00, eq_self, not_true_eq_false, not_false_eq_true, hD, hD', q_isBond_y hR' hl hk, fa_litL, wiN, nI_ltI, nI_eq, p_bondAt, n0, Nat.mul_zero, Nat.zero_add]⟩
    · exact ⟨nI (S (240 + 60 * l + k)) - nI 1, by simp (disch := omega) only [Nat.reduceEqDiff, Nat.reduceLT, Nat.reduceMul, Nat.not_lt_zero, f_X7_bond, gK, gR, gN, gIs, bR_s, bd_s, nm_s, ck, inb_nI, and_self, ite_true, ite_false, nI_clamp, fa_lit, pk_mul, nI_add, n10, n1z, n00, eq_self, not_true_eq_false, not_false_eq_true, hC, hB0, hT, hS, p_isBond_y hQ hl hk, p_spotOf, s3, nI_eq], by simp (disch := omega) only [Nat.reduceEqDiff, Nat.reduceLT, Nat.reduceMul, Nat.not_lt_zero, f_X8_bond, gK, gR, gN, gIs, bR_s, bd_s, nm_s, ck, inb_nI, and_self, ite_true, ite_false, nI_clamp, fa_lit, pk_mul, nI_add, n10, n1z, n00, eq_self, not_true_eq_false, not_false_eq_true, hD, hD', q_isBond_y hR' hl hk, fa_litL, wiN, nI_ltI, nI_eq, p_bondAt, n1, Nat.mul_one, ← Nat.add_assoc]⟩
    · exact ⟨nI (S (480 + 60 * l + k)), by simp (disch := omega) only [Nat.reduceEqDiff, Nat.reduceLT, Nat.reduceMul, Nat.not_lt_zero, f_X7_bond, gK, gR, gN, gIs, bR_s, bd_s, nm_s, ck, inb_nI, and_self, ite_true, ite_false, nI_clamp, fa_lit, pk_mul, nI_add, n10, n1z, n00, eq_self, not_true_eq_false, not_false_eq_true, hC, hB0, hT, hS, p_isBond_y hQ hl hk, p_spotOf, s3, nI_eq], by simp (disch := omega) only [Nat.reduceEqDiff, Nat.reduceLT, Nat.reduceMul, Nat.not_lt_zero, f_X8_bond, gK, gR, gN, gIs, bR_s, bd_s, nm_s, ck, inb_nI, and_self, ite_true, ite_false, nI_clamp, fa_lit, pk_mul, nI_add, n10, n1z, n00, eq_self, not_true_eq_false, not_false_eq_true, hD, hD', q_isBond_y hR' hl hk, fa_litL, wiN, nI_ltI, nI_eq, p_bondAt, n2, ← Nat.add_assoc]⟩
    · exact ⟨nI (S (720 + 60 * l + k)), by simp (disch := omega) only [Nat.reduceEqDiff, Nat.reduceLT, Nat.reduceMul, Nat.not_lt_zero, f_X7_bond, gK, gR, gN, gIs, bR_s, bd_s, nm_s, ck, inb_nI, and_self, ite_true, ite_false, nI_clamp, fa_lit, pk_mul, nI_add, n10, n1z, n00, eq_self, not_true_eq_false, not_false_eq_true, hC, hB0, hT, hS, p_isBond_y hQ hl hk, p_spotOf, s3, nI_eq], by simp (disch := omega) only [Nat.reduceEqDiff, Nat.reduceLT, Nat.reduceMul, Nat.not_lt_zero, f_X8_bond, gK, gR, gN, gIs, bR_s, bd_s, nm_s, ck, inb_nI, and_self, ite_true, ite_false, nI_clamp, fa_lit, pk_mul, nI_add, n10, n1z, n00, eq_self, not_true_eq_false, not_false_eq_true, hD, hD', q_isBond_y hR' hl hk, fa_litL, wiN, nI_ltI, nI_eq, p_bondAt, n3, ← Nat.add_assoc]⟩
    · refine ⟨nI (S (960 + 60 * l + k)), ?_, by simp (disch := omega) only [Nat.reduceEqDiff, Nat.reduceLT, Nat.reduceMul, Nat.not_lt_zero, f_X8_bond, gK, gR, gN, gIs, bR_s, bd_s, nm_s, ck, inb_nI, and_self, ite_true, ite_false, nI_clamp, fa_lit, pk_mul, nI_add, n10, n1z, n00, eq_self, not_true_eq_false, not_false_eq_true, hD, hD', q_isBond_y hR' hl hk, fa_litL, wiN, nI_ltI, nI_eq, p_bondAt, n4, ← Nat.add_assoc]⟩
      rw [hg]
      simp (disch := omega) only [Nat.reduceEqDiff, Nat.reduceLT, Nat.reduceMul, Nat.not_lt_zero, f_X7_bond, f_X7_gotBy, gK, gR, gN, gIs, bR_s, bd_s, nm_s, ck, inb_nI, and_self, ite_true, ite_false, nI_clamp, fa_lit, pk_mul, nI_add, n10, n1z, n00, eq_self, not_true_eq_false, not_false_eq_true, hC, hB0, hT, hS, p_isBond_y hQ hl hk, p_spotOf, nI_eq, g0, g1, g2]
end ASK2
