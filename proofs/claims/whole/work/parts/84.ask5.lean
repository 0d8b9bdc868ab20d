section WI
variable {M : Mm} {x : Int32}
theorem wi_n {n : Nat} (hn : n < 2 ^ 31 - 1) (h : NL x (n + 1)) : f_X8_within x.toInt64 (lN 0) (lN n) M = some (nI 0, M) := by
  rw [wiN x (by omega) (by omega)]
  rcases h with h | ⟨h1, h2⟩
  · rw [if_pos h]
  · rw [if_neg h1, if_pos]
    rw [fa_lt, nI_toInt (by omega)]
    rw [fa_le, nI_toInt (by omega)] at h2
    omega
theorem wi_y {n j : Nat} (hn : n < 2 ^ 31 - 1) (h : j ≤ n) : f_X8_within (nI j).toInt64 (lN 0) (lN n) M = some (nI 1, M) := by
  rw [wiN _ (by omega) (by omega), if_neg (by rw [nI_ltI (by omega) (by omega)]; omega), if_neg (by rw [nI_ltI (by omega) (by omega)]; omega)]
theorem wi1_n {n : Nat} (hn : n < 2 ^ 31 - 1) (h : N1 x n) : f_X8_within x.toInt64 (lN 1) (lN n) M = some (nI 0, M) := by
  rw [wiN x (by omega) (by omega)]
  rcases h with h | ⟨h1, h2⟩
  · rw [if_pos h]
  · rw [if_neg h1, if_pos h2]
theorem wi1_y {n j : Nat} (hn : n < 2 ^ 31 - 1) (h : j < n) : f_X8_within (nI (j + 1)).toInt64 (lN 1) (lN n) M = some (nI 1, M) := by
  rw [wiN _ (by omega) (by omega), if_neg (by rw [nI_ltI (by omega) (by omega)]; omega), if_neg (by rw [nI_ltI (by omega) (by omega)]; omega)]
end WI
section ASK5
variable {B t c l : Nat} {T S : Nat → Nat} {M N : Mm} {x y z u : Int32}
theorem pr_row (hcc : c + 1 ≤ 600) : Pr B c (f_X7_row B x y z) (f_X8_row (B + 59) x y z) := by
  refine pr_q hcc (fun M t T S hQ hR ht => ?_)
  have w0 := hR.2.2.2.1.1
  have y60 := hR.2.2.2.2.1.1
  rcases ixL x (n := T 0) (by omega) with h | ⟨l, hl, rfl⟩
  · exact ⟨-nI 1, M, by simp (disch := omega) only [f_X7_row, reduceIte, ↓reduceIte, ↓ck_i, ↓nm_s, ↓bR_i, ↓bd_i, Option.isSome_some, Option.getD_some, gK, gR, gN, gIs, inb_nI, and_self, nI_clamp, fa_lit, pk_mul, nI_add, n10, n1z, n00, eq_self, not_true_eq_false, not_false_eq_true, hQ.1, p_isToCome_0 hQ h], KC.rf, fun _ hR2 hb => ⟨sI M (B + 59) 0 (nI 0), by simp (disch := omega) only [f_X8_row, reduceIte, ↓reduceIte, ↓ck_i, ↓nm_s, ↓bR_i, ↓bd_i, Option.isSome_some, Option.getD_some, gK, gR, gN, gIs, inb_nI, and_self, nI_clamp, fa_lit, pk_mul, nI_add, n10, n1z, n00, eq_self, not_true_eq_false, not_false_eq_true, hR.1, hR2.1, q_isToCome_0 hR2 h], KR.th (by omega) (by omega), hb⟩⟩
  have w := (hR.2.2.2.1.2.2 l hl).2.2.2.2.2.2.1
  rcases ixN y (n := T (12 + 7 * l + 3)) (by omega) with h | ⟨k, hk, rfl⟩
  · exact ⟨-nI 1, M, by simp (disch := omega) only [f_X7_row, reduceIte, ↓reduceIte, ↓ck_i, ↓nm_s, ↓bR_i, ↓bd_i, Option.isSome_some, Option.getD_some, gK, gR, gN, gIs, inb_nI, and_self, nI_clamp, fa_lit, pk_mul, nI_add, n10, n1z, n00, eq_self, not_true_eq_false, not_false_eq_true, hQ.1, p_isToCome_n hQ hl h], KC.rf, fun _ hR2 hb => ⟨sI M (B + 59) 0 (nI 0), by simp (disch := omega) only [f_X8_row, reduceIte, ↓reduceIte, ↓ck_i, ↓nm_s, ↓bR_i, ↓bd_i, Option.isSome_some, Option.getD_some, gK, gR, gN, gIs, inb_nI, and_self, nI_clamp, fa_lit, pk_mul, nI_add, n10, n1z, n00, eq_self, not_true_eq_false, not_false_eq_true, hR.1, hR2.1, q_isToCome_n hR2 hl h], KR.th (by omega) (by omega), hb⟩⟩
  by_cases hy : k + 1 ≤ S 1206
  · exact ⟨-nI 1, M, by simp (disch := omega) only [f_X7_row, reduceIte, ↓reduceIte, ↓ck_i, ↓nm_s, ↓bR_i, ↓bd_i, Option.isSome_some, Option.getD_some, gK, gR, gN, gIs, inb_nI, and_self, nI_clamp, fa_lit, pk_mul, nI_add, n10, n1z, n00, eq_self, not_true_eq_false, not_false_eq_true, hQ.1, p_isToCome_m hQ hl hk hy], KC.rf, fun _ hR2 hb => ⟨sI M (B + 59) 0 (nI 0), by simp (disch := omega) only [f_X8_row, reduceIte, ↓reduceIte, ↓ck_i, ↓nm_s, ↓bR_i, ↓bd_i, Option.isSome_some, Option.getD_some, gK, gR, gN, gIs, inb_nI, and_self, nI_clamp, fa_lit, pk_mul, nI_add, n10, n1z, n00, eq_self, not_true_eq_false, not_false_eq_true, hR.1, hR2.1, q_isToCome_m hR2 hl hk hy], KR.th (by omega) (by omega), hb⟩⟩
  have hy : S 1206 < k + 1 := by omega
  obtain ⟨N, eN, n1, n2, n3⟩ := p_foresee hQ ht hl
  have hs : N.2.2 = M.2.2 := by rw [n1.1]
  obtain ⟨a0, a1, a2, a3, a4, a5⟩ := n3 (k + 1) hy (by omega)
  have hi := p_isToCome_y hQ hl hk hy
  clear n3
  rcases ixL z (n := 6) (by omega) with h | ⟨v, hv, rfl⟩
  · have b0 := NL_ne (by omega) h (j := 0) (by omega)
    have b1 := NL_ne (by omega) h (j := 1) (by omega)
    have b2 := NL_ne (by omega) h (j := 2) (by omega)
    have b3 := NL_ne (by omega) h (j := 3) (by omega)
    have b4 := NL_ne (by omega) h (j := 4) (by omega)
    have b5 := NL_ne (by omega) h (j := 5) (by omega)
    refine ⟨-nI 1, N, by simp (disch := omega) only [f_X7_row, reduceIte, ↓reduceIte, ↓ck_i, ↓nm_s, ↓bR_i, ↓bd_i, Option.isSome_some, Option.getD_some, gK, gR, gN, gIs, inb_nI, and_self, nI_clamp, fa_lit, pk_mul, nI_add, n10, n1z, n00, eq_self, not_true_eq_false, not_false_eq_true, hQ.1, hQ.2.1, hi, eN, b0, b1, b2, b3, b4, b5], n1.c, fun hRN hR2 hb => ⟨sI N (B + 59) 0 (nI 0), by simp (disch := omega) only [f_X8_row, reduceIte, ↓reduceIte, ↓ck_i, ↓nm_s, ↓bR_i, ↓bd_i, Option.isSome_some, Option.getD_some, gK, gR, gN, gIs, inb_nI, and_self, nI_clamp, fa_lit, pk_mul, nI_add, n10, n1z, n00, eq_self, not_true_eq_false, not_false_eq_true, hRN.1, hR2.1, q_isToCome_y hR2 hl hk hy, fa_litL, wi_n (n := 5) (by omega) h], KR.th (by omega) (by omega), by rw [sI_r, n1.1]; exact hb⟩⟩
  have fin : ∀ (q : Int32), (∀ P : Mm, QR B P T S l 0 0 0 → P.1 (B + 68) (6 * (k + 1) + v) = q) → f_X7_row B (nI l) (nI (k + 1)) (nI v) M = some (q, N) → ∃ (v_1 : Int32) (N : Mm), f_X7_row B (nI l) (nI (k + 1)) (nI v) M = some (v_1, N) ∧ KC B M N ∧ (RQ B N T S c → RQ B (sI N (B + 59) 0 (nI 0)) T S c → M.2.1 B 6 = M.2.1 (B + 59) 28 → ∃ P, f_X8_row (B + 59) (nI l) (nI (k + 1)) (nI v) N = some (v_1, P) ∧ KR B N P ∧ P.2.1 B 6 = P.2.1 (B + 59) 28) := by
    intro q hq he
    refine ⟨q, N, he, n1.c, fun hRN hR2 hb => ?_⟩
    obtain ⟨P, eP, p1, p2⟩ := q_tells0 hR2 hl
    have hsP : P.2.2 = N.2.2 := by rw [p1.1]; rfl
    have hqq := hq P p2
    refine ⟨P, by simp (disch := omega) only [f_X8_row, reduceIte, ↓reduceIte, ↓ck_i, ↓nm_s, ↓bR_i, ↓bd_i, Option.isSome_some, Option.getD_some, gK, gR, gN, gIs, inb_nI, and_self, nI_clamp, fa_lit, pk_mul, nI_add, n10, n1z, n00, eq_self, not_true_eq_false, not_false_eq_true, hRN.1, hR2.1, hsP, q_isToCome_y hR2 hl hk hy, fa_litL, wi_y (n := 5), eP, hqq], (KR.th (by omega) (by omega)).tr p1.r, by rw [p1.1, sI_r, n1.1]; exact hb⟩
  obtain rfl | rfl | rfl | rfl | rfl | rfl : v = 0 ∨ v = 1 ∨ v = 2 ∨ v = 3 ∨ v = 4 ∨ v = 5 := by omega
  · exact fin _ (fun P h => (h (k + 1) hy (by omega)).1) (by simp (disch := omega) only [f_X7_row, reduceIte, ↓reduceIte, ↓ck_i, ↓nm_s, ↓bR_i, ↓bd_i, Option.isSome_some, Option.getD_some, gK, gR, gN, gIs, inb_nI, and_self, nI_clamp, fa_lit, pk_mul, nI_add, n10, n1z, n00, eq_self, not_true_eq_false, not_false_eq_true, hQ.1, hQ.2.1, hs, hi, eN, nI_eq, Nat.reduceEqDiff, a0])
  · exact fin _ (fun P h => (h (k + 1) hy (by omega)).2.1) (by simp (disch := omega) only [f_X7_row, reduceIte, ↓reduceIte, ↓ck_i, ↓nm_s, ↓bR_i, ↓bd_i, Option.isSome_some, Option.getD_some, gK, gR, gN, gIs, inb_nI, and_self, nI_clamp, fa_lit, pk_mul, nI_add, n10, n1z, n00, eq_self, not_true_eq_false, not_false_eq_true, hQ.1, hQ.2.1, hs, hi, eN, nI_eq, Nat.reduceEqDiff, a1])
  · exact fin _ (fun P h => (h (k + 1) hy (by omega)).2.2.1) (by simp (disch := omega) only [f_X7_row, reduceIte, ↓reduceIte, ↓ck_i, ↓nm_s, ↓bR_i, ↓bd_i, Option.isSome_some, Option.getD_some, gK, gR, gN, gIs, inb_nI, and_self, nI_clamp, fa_lit, pk_mul, nI_add, n10, n1z, n00, eq_self, not_true_eq_false, not_false_eq_true, hQ.1, hQ.2.1, hs, hi, eN, nI_eq, Nat.reduceEqDiff, a2])
  · exact fin _ (fun P h => (h (k + 1) hy (by omega)).2.2.2.1) (by simp (disch := omega) only [f_X7_row, reduceIte, ↓reduceIte, ↓ck_i, ↓nm_s, ↓bR_i, ↓bd_i, Option.isSome_some, Option.getD_some, gK, gR, gN, gIs, inb_nI, and_self, nI_clamp, fa_lit, pk_mul, nI_add, n10, n1z, n00, eq_self, not_true_eq_false, not_false_eq_true, hQ.1, hQ.2.1, hs, hi, eN, nI_eq, Nat.reduceEqDiff, a3])
  · exact fin _ (fun P h => (h (k + 1) hy (by omega)).2.2.2.2.1) (by simp (disch := omega) only [f_X7_row, reduceIte, ↓reduceIte, ↓ck_i, ↓nm_s, ↓bR_i, ↓bd_i, Option.isSome_some, Option.getD_some, gK, gR, gN, gIs, inb_nI, and_self, nI_clamp, fa_lit, pk_mul, nI_add, n10, n1z, n00, eq_self, not_true_eq_false, not_false_eq_true, hQ.1, hQ.2.1, hs, hi, eN, nI_eq, Nat.reduceEqDiff, a4])
  · exact fin _ (fun P h => (h (k + 1) hy (by omega)).2.2.2.2.2) (by simp (disch := omega) only [f_X7_row, reduceIte, ↓reduceIte, ↓ck_i, ↓nm_s, ↓bR_i, ↓bd_i, Option.isSome_some, Option.getD_some, gK, gR, gN, gIs, inb_nI, and_self, nI_clamp, fa_lit, pk_mul, nI_add, n10, n1z, n00, eq_self, not_true_eq_false, not_false_eq_true, hQ.1, hQ.2.1, hs, hi, eN, nI_eq, Nat.reduceEqDiff, a5])
theorem p_fst (hQ : CQ B t M T S c) (ht : t + 14 ≤ B + 44) (hl : l < T 0) : ∃ N, f_X7_foreseeStanding B (nI l) M = some (if ctS T S l 0 = 0 then nI 0 else nI 1, N) ∧ KO B M N ∧ RO B N T S l ∧ RR B N T S l 0 0 0 := by
  have ct := fb_ct_le (fun k => decide (S (60 * l + k) = 0)) (T (12 + 7 * l))
  have w := (hQ.2.2.2.2.1.2.2 l hl).2.1
  obtain ⟨N, eN, n1, n2, n3⟩ := p_foresee hQ ht hl
  have hs : N.2.2 = M.2.2 := by rw [n1.1]
  have hx : ctS T S l 0 ≤ 60 := Nat.le_trans ct w
  refine ⟨N, ?_, n1, n2, n3⟩
  by_cases h0 : ctS T S l 0 = 0
  · simp (disch := omega) only [f_X7_foreseeStanding, reduceIte, ↓reduceIte, ↓ck_i, ↓nm_s, ↓bR_i, ↓bd_i, Option.isSome_some, Option.getD_some, gK, gR, gN, gIs, inb_nI, and_self, nI_clamp, fa_lit, pk_mul, nI_add, n10, n1z, n00, eq_self, not_true_eq_false, not_false_eq_true, hQ.1, hQ.2.1, hs, p_isLoan_y hQ hl, eN, n2.1, nI_leI, h0, Nat.le_refl]
  · have h1 : ¬ ctS T S l 0 ≤ 0 := by omega
    simp (disch := omega) only [f_X7_foreseeStanding, reduceIte, ↓reduceIte, ↓ck_i, ↓nm_s, ↓bR_i, ↓bd_i, Option.isSome_some, Option.getD_some, gK, gR, gN, gIs, inb_nI, and_self, nI_clamp, fa_lit, pk_mul, nI_add, n10, n1z, n00, eq_self, not_true_eq_false, not_false_eq_true, hQ.1, hQ.2.1, hs, p_isLoan_y hQ hl, eN, n2.1, nI_leI, h0, h1]
theorem p_fst_0 (hQ : CQ B t M T S c) (h : NL x (T 0)) : f_X7_foreseeStanding B x M = some (nI 0, M) := by
  simp only [f_X7_foreseeStanding, reduceIte, ↓reduceIte, ↓ck_i, ↓nm_s, ↓bR_i, ↓bd_i, Option.isSome_some, Option.getD_some, gK, gR, gN, gIs, inb_nI, and_self, nI_clamp, fa_lit, pk_mul, nI_add, n10, n1z, n00, eq_self, not_true_eq_false, not_false_eq_true, hQ.1, p_isLoan_n hQ h]
theorem q_has (hR : RQ B M T S c) (hl : l < T 0) : f_X8_hasAny (B + 59) (nI l) M = some (if ctS T S l 0 = 0 then nI 0 else nI 1, M) := by
  have ct := fb_ct_le (fun k => decide (S (60 * l + k) = 0)) (T (12 + 7 * l))
  have w := (hR.2.2.2.1.2.2 l hl).2.1
  have hx : ctS T S l 0 ≤ 60 := Nat.le_trans ct w
  have hh := q_howMany hR hl (st := 0) (by omega)
  by_cases h0 : ctS T S l 0 = 0
  · rw [h0] at hh
    simp (disch := omega) only [f_X8_hasAny, reduceIte, ↓reduceIte, ↓ck_i, ↓nm_s, ↓bR_i, ↓bd_i, Option.isSome_some, Option.getD_some, gK, gR, gN, gIs, inb_nI, and_self, nI_clamp, fa_lit, pk_mul, nI_add, n10, n1z, n00, eq_self, not_true_eq_false, not_false_eq_true, hR.1, q_isLoan_y hR hl, hh, nI_leI, h0, Nat.le_refl]
  · have h1 : ¬ ctS T S l 0 ≤ 0 := by omega
    simp (disch := omega) only [f_X8_hasAny, reduceIte, ↓reduceIte, ↓ck_i, ↓nm_s, ↓bR_i, ↓bd_i, Option.isSome_some, Option.getD_some, gK, gR, gN, gIs, inb_nI, and_self, nI_clamp, fa_lit, pk_mul, nI_add, n10, n1z, n00, eq_self, not_true_eq_false, not_false_eq_true, hR.1, q_isLoan_y hR hl, hh, nI_leI, h0, h1]
theorem q_has_0 (hR : RQ B M T S c) (h : NL x (T 0)) : f_X8_hasAny (B + 59) x M = some (nI 0, M) := by
  simp only [f_X8_hasAny, reduceIte, ↓reduceIte, ↓ck_i, ↓nm_s, ↓bR_i, ↓bd_i, Option.isSome_some, Option.getD_some, gK, gR, gN, gIs, inb_nI, and_self, nI_clamp, fa_lit, pk_mul, nI_add, n10, n1z, n00, eq_self, not_true_eq_false, not_false_eq_true, hR.1, q_isLoan_n hR h]
/-- what is told as a fraction, on both sides -/
theorem fr_c {b : Int64} (n1 : KO B M N) : KC B M (sL N B 6 b) := ⟨by rw [sL_sh, n1.1], fun a ha => by rw [sL_1]; exact n1.2 a (by omega), by rw [sL_ne (by omega), n1.1]⟩
theorem fr_r {b : Int64} {P : Mm} (k : KR B N P) : KR B N (sL P (B + 59) 28 b) := k.tr ⟨rfl, fun _ _ _ _ => rfl, rfl, rfl, by rw [sL_ne (by omega)]⟩
theorem fr_b {b : Int64} {P : Mm} (e : P.2 = (sL N B 6 b).2) : (sL P (B + 59) 28 b).2.1 B 6 = (sL P (B + 59) 28 b).2.1 (B + 59) 28 := by
  rw [sL_ne (by omega), sL_hit, e]
  exact sL_hit
theorem vD_le (hW : TW T) (hw : SW T S c) (hc : c ≤ 600) (hl : l < T 0) {oy op m : Nat} (hm : m ≤ 99999) {y : Nat} (h1 : S 1206 < y) (h2 : y ≤ T (12 + 7 * l + 3)) : vD T S l oy op m y ≤ vS T S l oy op m y ∧ vS T S l oy op m y ≤ 60 := by
  have r := RIy (oy := oy) (op := op) hW hw hc hl hm h1 h2
  have w := (hW.2.2 l hl).2.1
  exact ⟨r.du hW hl h2, Nat.le_trans r.1 w⟩
theorem pr_odds (hcc : c + 1 ≤ 600) : Pr B c (f_X7_odds B x y) (f_X8_odds (B + 59) x y) := by
  refine pr_q hcc (fun M t T S hQ hR ht => ?_)
  have w0 := hR.2.2.2.1.1
  have y60 := hR.2.2.2.2.1.1
  rcases ixL x (n := T 0) (by omega) with h | ⟨l, hl, rfl⟩
  · exact ⟨-1, M, by simp (disch := omega) only [f_X7_odds, reduceIte, ↓reduceIte, ↓ck_i, ↓nm_s, ↓bR_i, ↓bd_i, Option.isSome_some, Option.getD_some, gK, gR, gN, gIs, inb_nI, and_self, nI_clamp, fa_lit, pk_mul, nI_add, n10, n1z, n00, eq_self, not_true_eq_false, not_false_eq_true, hQ.1, p_isToCome_0 hQ h], KC.rf, fun _ hR2 hb => ⟨sI M (B + 59) 0 (nI 0), by simp (disch := omega) only [f_X8_odds, reduceIte, ↓reduceIte, ↓ck_i, ↓nm_s, ↓bR_i, ↓bd_i, Option.isSome_some, Option.getD_some, gK, gR, gN, gIs, inb_nI, and_self, nI_clamp, fa_lit, pk_mul, nI_add, n10, n1z, n00, eq_self, not_true_eq_false, not_false_eq_true, hR.1, hR2.1, q_isToCome_0 hR2 h], KR.th (by omega) (by omega), hb⟩⟩
  have w := (hR.2.2.2.1.2.2 l hl).2.2.2.2.2.2.1
  rcases ixN y (n := T (12 + 7 * l + 3)) (by omega) with h | ⟨k, hk, rfl⟩
  · exact ⟨-1, M, by simp (disch := omega) only [f_X7_odds, reduceIte, ↓reduceIte, ↓ck_i, ↓nm_s, ↓bR_i, ↓bd_i, Option.isSome_some, Option.getD_some, gK, gR, gN, gIs, inb_nI, and_self, nI_clamp, fa_lit, pk_mul, nI_add, n10, n1z, n00, eq_self, not_true_eq_false, not_false_eq_true, hQ.1, p_isToCome_n hQ hl h], KC.rf, fun _ hR2 hb => ⟨sI M (B + 59) 0 (nI 0), by simp (disch := omega) only [f_X8_odds, reduceIte, ↓reduceIte, ↓ck_i, ↓nm_s, ↓bR_i, ↓bd_i, Option.isSome_some, Option.getD_some, gK, gR, gN, gIs, inb_nI, and_self, nI_clamp, fa_lit, pk_mul, nI_add, n10, n1z, n00, eq_self, not_true_eq_false, not_false_eq_true, hR.1, hR2.1, q_isToCome_n hR2 hl h], KR.th (by omega) (by omega), hb⟩⟩
  by_cases hy : k + 1 ≤ S 1206
  · exact ⟨-1, M, by simp (disch := omega) only [f_X7_odds, reduceIte, ↓reduceIte, ↓ck_i, ↓nm_s, ↓bR_i, ↓bd_i, Option.isSome_some, Option.getD_some, gK, gR, gN, gIs, inb_nI, and_self, nI_clamp, fa_lit, pk_mul, nI_add, n10, n1z, n00, eq_self, not_true_eq_false, not_false_eq_true, hQ.1, p_isToCome_m hQ hl hk hy], KC.rf, fun _ hR2 hb => ⟨sI M (B + 59) 0 (nI 0), by simp (disch := omega) only [f_X8_odds, reduceIte, ↓reduceIte, ↓ck_i, ↓nm_s, ↓bR_i, ↓bd_i, Option.isSome_some, Option.getD_some, gK, gR, gN, gIs, inb_nI, and_self, nI_clamp, fa_lit, pk_mul, nI_add, n10, n1z, n00, eq_self, not_true_eq_false, not_false_eq_true, hR.1, hR2.1, q_isToCome_m hR2 hl hk hy], KR.th (by omega) (by omega), hb⟩⟩
  have hy : S 1206 < k + 1 := by omega
  obtain ⟨N, eN, n1, n2, n3⟩ := p_fst hQ ht hl
  have hs : N.2.2 = M.2.2 := by rw [n1.1]
  have hi := p_isToCome_y hQ hl hk hy
  have hv := vD_le (oy := 0) (op := 0) hR.2.2.2.1 hR.2.2.2.2.1 (by omega) hl (m := 0) (by omega) hy (by omega)
  have cx : ctS T S l 0 ≤ 60 := Nat.le_trans (fb_ct_le _ _) (hR.2.2.2.1.2.2 l hl).2.1
  by_cases h0 : ctS T S l 0 = 0
  · rw [if_pos h0] at eN
    refine ⟨-1, N, by simp (disch := omega) only [f_X7_odds, reduceIte, ↓reduceIte, ↓ck_i, ↓nm_s, ↓bR_i, ↓bd_i, Option.isSome_some, Option.getD_some, gK, gR, gN, gIs, inb_nI, and_self, nI_clamp, fa_lit, pk_mul, nI_add, n10, n1z, n00, eq_self, not_true_eq_false, not_false_eq_true, hQ.1, hi, eN], n1.c, fun hRN hR2 hb => ⟨sI N (B + 59) 0 (nI 0), ?_, KR.th (by omega) (by omega), by rw [sI_r, n1.1]; exact hb⟩⟩
    have hq := q_has hR2 hl
    rw [if_pos h0] at hq
    simp (disch := omega) only [f_X8_odds, reduceIte, ↓reduceIte, ↓ck_i, ↓nm_s, ↓bR_i, ↓bd_i, Option.isSome_some, Option.getD_some, gK, gR, gN, gIs, inb_nI, and_self, nI_clamp, fa_lit, pk_mul, nI_add, n10, n1z, n00, eq_self, not_true_eq_false, not_false_eq_true, hRN.1, hR2.1, q_isToCome_y hR2 hl hk hy, hq]
  · rw [if_neg h0] at eN
    have a2 := (n3 (k + 1) hy (by omega)).2.2.1
    have t1 := p_tell (B := B) (x := vD T S l 0 0 0 (k + 1)) (y := ctS T S l 0) (M := N) (by show N.2.2.2.1 B = 7; rw [hs]; exact hQ.1.1) (by omega) (by omega) (by omega)
    have e1 : f_X7_odds B (nI l) (nI (k + 1)) M = some (lN (vD T S l 0 0 0 (k + 1) / Nat.gcd (ctS T S l 0) (vD T S l 0 0 0 (k + 1))), sL N B 6 (lN (ctS T S l 0 / Nat.gcd (ctS T S l 0) (vD T S l 0 0 0 (k + 1))))) := by
      have a2 : N.1 (B + 49) (k + 1) = nI (vD T S l 0 0 0 (k + 1)) := a2
      simp (disch := omega) only [f_X7_odds, reduceIte, ↓reduceIte, ↓ck_i, ↓nm_s, ↓bR_i, ↓bd_i, Option.isSome_some, Option.getD_some, gK, gR, gN, gIs, inb_nI, and_self, nI_clamp, fa_lit, pk_mul, nI_add, n10, n1z, n00, eq_self, not_true_eq_false, not_false_eq_true, hQ.1, hs, hi, eN, a2, n2.1, nI_l, t1]
    refine ⟨_, _, e1, fr_c n1, fun hRN hR2 hb => ?_⟩
    obtain ⟨P, eP, p1, p2⟩ := q_tells0 hR2 hl
    have hRP := p1.rq hR2
    have hq := q_has hR2 hl
    rw [if_neg h0] at hq
    have b2 : P.1 (B + 68) (6 * (k + 1) + 2) = nI (vD T S l 0 0 0 (k + 1)) := (p2 (k + 1) hy (by omega)).2.2.1
    have hm := q_howMany hRP hl (st := 0) (by omega)
    have t2 := q_least (B := B) (x := vD T S l 0 0 0 (k + 1)) (y := ctS T S l 0) (M := P) hRP.1.1 (by omega) (by omega) (by omega)
    refine ⟨_, ?_, fr_r ((KR.th (j := 0) (v := nI 0) (by omega) (by omega)).tr p1.r), fr_b (N := N) (by rw [p1.1, sI_r])⟩
    simp (disch := omega) only [f_X8_odds, reduceIte, ↓reduceIte, ↓ck_i, ↓nm_s, ↓bR_i, ↓bd_i, Option.isSome_some, Option.getD_some, gK, gR, gN, gIs, inb_nI, and_self, nI_clamp, fa_lit, pk_mul, nI_add, n10, n1z, n00, eq_self, not_true_eq_false, not_false_eq_true, hRN.1, hR2.1, hRP.1, q_isToCome_y hR2 hl hk hy, hq, eP, b2, hm, nI_l, t2]
/-- all that is paid in a year -/
def pyV (T : Nat → Nat) (l s d c b : Nat) : Nat := s * T (12 + 7 * l + 2) + d * c + (if b = 1 then 0 else fb_sm (fun k => T (40 + 10 * l + (k + 1))) (min 9 d))
theorem pz_le (hW : TW T) (hl : l < T 0) {n : Nat} (hn : n ≤ 9) : fb_sm (fun k => T (40 + 10 * l + (k + 1))) n ≤ 89991 := by
  have w := (hW.2.2 l hl).2.2.2.2.2.2.2.2.2.2.2
  refine Nat.le_trans (fb_sm_bound (c := 9999) (fun k hk => w (k + 1) (by omega))) ?_
  omega
theorem p_pay_lp (hC : CmD B M.2.2) (hW : TW T) (hl : l < T 0) (hO : RO B M T S l) {y d a : Nat} (hy : y < 21) (ha : a ≤ 100000) (hd : d ≤ 60) (e1 : M.1 (B + 49) y = nI d) (e2 : M.1 (B + 51) y = nI 0) :
    ∀ (e k n : Nat), k + e = min 9 d → e < n → f_X4_payment_23 n (B + 44) (nI y) (nI (a + fb_sm (fun k => T (40 + 10 * l + (k + 1))) k)) (nI (k + 1)) M = some (nI (a + fb_sm (fun k => T (40 + 10 * l + (k + 1))) (min 9 d)), M) := by
  intro e
  induction e with
  | zero =>
    intro k n hk hn
    obtain ⟨n, rfl⟩ : ∃ m, n = m + 1 := ⟨n - 1, by omega⟩
    rw [show k = min 9 d by omega]
    by_cases h9 : 9 < min 9 d + 1
    · simp (disch := omega) only [f_X4_payment_23, reduceIte, ↓reduceIte, ↓ck_i, ↓nm_s, ↓bR_i, ↓bd_i, Option.isSome_some, Option.getD_some, gK, gR, gN, gIs, inb_nI, and_self, nI_clamp, fa_lit, pk_mul, nI_add, n10, n1z, n00, eq_self, not_true_eq_false, not_false_eq_true, nI_ltI, h9]
    · have h10 : d < min 9 d + 1 := by omega
      simp (disch := omega) only [f_X4_payment_23, reduceIte, ↓reduceIte, ↓ck_i, ↓nm_s, ↓bR_i, ↓bd_i, Option.isSome_some, Option.getD_some, gK, gR, gN, gIs, inb_nI, and_self, nI_clamp, fa_lit, pk_mul, nI_add, n10, n1z, n00, eq_self, not_true_eq_false, not_false_eq_true, hC.a, nI_ltI, h9, e1, h10]
  | succ e ih =>
    intro k n hk hn
    obtain ⟨n, rfl⟩ : ∃ m, n = m + 1 := ⟨n - 1, by omega⟩
    have ih := ih (k + 1) n (by omega) (by omega)
    rw [fb_sm_succ, ← Nat.add_assoc] at ih
    have p1 := hO.2.2 (k + 1) (by omega) (by omega)
    have h9 : ¬ 9 < k + 1 := by omega
    have h10 : ¬ d < k + 1 := by omega
    simp (disch := omega) only [f_X4_payment_23, reduceIte, ↓reduceIte, ↓ck_i, ↓nm_s, ↓bR_i, ↓bd_i, Option.isSome_some, Option.getD_some, gK, gR, gN, gIs, inb_nI, and_self, nI_clamp, fa_lit, pk_mul, nI_add, n10, n1z, n00, eq_self, not_true_eq_false, not_false_eq_true, hC.a, nI_ltI, h9, e1, e2, h10, p1]
    exact ih
theorem p_payment (hC : CmD B M.2.2) (hW : TW T) (hl : l < T 0) (hO : RO B M T S l) {y s d c b : Nat} (hy : y < 21) (hs : s ≤ 60) (hd : d ≤ 60) (hc : c ≤ 999) (hb : b ≤ 1) (e0 : M.1 (B + 48) y = nI (s * T (12 + 7 * l + 2))) (e1 : M.1 (B + 49) y = nI d) (e3 : M.1 (B + 50) y = nI c) (e2 : M.1 (B + 51) y = nI b) : f_X4_payment (B + 44) (nI y) M = some (nI (pyV T l s d c b), M) := by
  have w := (hW.2.2 l hl).2.2.2.2.1
  have m1 : s * T (12 + 7 * l + 2) ≤ 60 * 99 := Nat.mul_le_mul hs w
  have m2 : d * c ≤ 60 * 999 := Nat.mul_le_mul hd hc
  by_cases hb1 : b = 1
  · subst hb1
    have e : pyV T l s d c 1 = s * T (12 + 7 * l + 2) + d * c := by unfold pyV; rw [if_pos rfl]; rfl
    rw [e]
    have hF : FU = 199999 + 1 := rfl
    have h9 : ¬ 9 < 1 := by omega
    by_cases hd0 : d < 1
    · simp (disch := omega) only [f_X4_payment, hF, f_X4_payment_23, reduceIte, ↓reduceIte, ↓ck_i, ↓nm_s, ↓bR_i, ↓bd_i, Option.isSome_some, Option.getD_some, gK, gR, gN, gIs, inb_nI, and_self, nI_clamp, fa_lit, pk_mul, nI_add, n10, n1z, n00, eq_self, not_true_eq_false, not_false_eq_true, hC.a, nI_ltI, h9, e0, e1, e3, hd0]
    · simp (disch := omega) only [f_X4_payment, hF, f_X4_payment_23, reduceIte, ↓reduceIte, ↓ck_i, ↓nm_s, ↓bR_i, ↓bd_i, Option.isSome_some, Option.getD_some, gK, gR, gN, gIs, inb_nI, and_self, nI_clamp, fa_lit, pk_mul, nI_add, n10, n1z, n00, eq_self, not_true_eq_false, not_false_eq_true, hC.a, nI_ltI, h9, e0, e1, e3, e2, hd0]
  · have hb0 : b = 0 := by omega
    subst hb0
    have h := p_pay_lp hC hW hl hO (a := s * T (12 + 7 * l + 2) + d * c) hy (by omega) hd e1 e2 (min 9 d) 0 FU (by omega) (by unfold FU; omega)
    have e : pyV T l s d c 0 = s * T (12 + 7 * l + 2) + d * c + fb_sm (fun k => T (40 + 10 * l + (k + 1))) (min 9 d) := by unfold pyV; rw [if_neg (by omega)]
    rw [e, ← h]
    simp (disch := omega) only [f_X4_payment, reduceIte, ↓reduceIte, ↓ck_i, ↓nm_s, ↓bR_i, ↓bd_i, Option.isSome_some, Option.getD_some, gK, gR, gN, gIs, inb_nI, and_self, nI_clamp, fa_lit, pk_mul, nI_add, n10, n1z, n00, eq_self, not_true_eq_false, not_false_eq_true, hC.a, e0, e1, e3]
    rfl
theorem q_pay_lp (hR : RQ B M T S c) (hl : l < T 0) {y d b : Nat} (hy : y < 21) (hd : d ≤ 60) (hb : b ≤ 1) (e1 : M.1 (B + 68) (6 * y + 2) = nI d) (e2 : M.1 (B + 68) (6 * y + 4) = nI b) (a : Nat) :
    ∀ (e k n : Nat), k + e = min 9 d → e < n → f_X8_paidIn_39 n (B + 59) (nI l) (nI (6 * y)) (lN (a + (if b = 1 then 0 else fb_sm (fun k => T (40 + 10 * l + (k + 1))) k))) (nI (k + 1)) M = some (lN (a + (if b = 1 then 0 else fb_sm (fun k => T (40 + 10 * l + (k + 1))) (min 9 d))), M) := by
  have w := hR.2.2.2.1.2.2 l hl
  have w0 := hR.2.2.2.1.1
  intro e
  induction e with
  | zero =>
    intro k n hk hn
    obtain ⟨n, rfl⟩ : ∃ m, n = m + 1 := ⟨n - 1, by omega⟩
    rw [show k = min 9 d by omega]
    by_cases h10 : d < min 9 d + 1
    · simp (disch := omega) only [f_X8_paidIn_39, reduceIte, ↓reduceIte, ↓ck_i, ↓nm_s, ↓bR_i, ↓bd_i, Option.isSome_some, Option.getD_some, gK, gR, gN, gIs, inb_nI, and_self, nI_clamp, fa_lit, pk_mul, nI_add, n10, n1z, n00, eq_self, not_true_eq_false, not_false_eq_true, hR.1, nI_ltI, e1, h10]
    · have h9 : 9 < min 9 d + 1 := by omega
      simp (disch := omega) only [f_X8_paidIn_39, reduceIte, ↓reduceIte, ↓ck_i, ↓nm_s, ↓bR_i, ↓bd_i, Option.isSome_some, Option.getD_some, gK, gR, gN, gIs, inb_nI, and_self, nI_clamp, fa_lit, pk_mul, nI_add, n10, n1z, n00, eq_self, not_true_eq_false, not_false_eq_true, hR.1, nI_ltI, h9, e1, h10]
  | succ e ih =>
    intro k n hk hn
    obtain ⟨n, rfl⟩ : ∃ m, n = m + 1 := ⟨n - 1, by omega⟩
    have ih := ih (k + 1) n (by omega) (by omega)
    have h9 : ¬ 9 < k + 1 := by omega
    have h10 : ¬ d < k + 1 := by omega
    have w9 := w.2.2.2.2.2.2.2.2.2.2.2 (k + 1) (by omega)
    clear w
    by_cases hb1 : b = 1
    · subst hb1
      rw [if_pos rfl] at ih ⊢
      simp (disch := omega) only [f_X8_paidIn_39, reduceIte, ↓reduceIte, ↓ck_i, ↓nm_s, ↓bR_i, ↓bd_i, Option.isSome_some, Option.getD_some, gK, gR, gN, gIs, inb_nI, and_self, nI_clamp, fa_lit, pk_mul, nI_add, n10, n1z, n00, eq_self, not_true_eq_false, not_false_eq_true, hR.1, nI_ltI, h9, e1, e2, h10, fa_litL, lN_add, Nat.add_zero] at ih ⊢
      exact ih
    · have hb0 : b = 0 := by omega
      subst hb0
      have pz := q_prizeOf hR hl (r := k + 1) (by omega)
      rw [if_pos (show k + 1 ≤ 9 by omega)] at pz
      rw [if_neg (by omega)] at ih ⊢
      rw [if_neg (by omega)]
      rw [if_neg (by omega), fb_sm_succ, ← Nat.add_assoc] at ih
      have n01 : (nI 0 = nI 1) = False := by decide
      simp (disch := omega) only [f_X8_paidIn_39, reduceIte, ↓reduceIte, ↓ck_i, ↓nm_s, ↓bR_i, ↓bd_i, Option.isSome_some, Option.getD_some, gK, gR, gN, gIs, inb_nI, and_self, nI_clamp, fa_lit, pk_mul, nI_add, n10, n1z, n00, eq_self, not_true_eq_false, not_false_eq_true, hR.1, nI_ltI, h9, e1, e2, n01, h10, fa_litL, lN_add, pz, nI_l]
      exact ih
theorem q_paidIn (hR : RQ B M T S c) (hl : l < T 0) {y s d q b : Nat} (hy : y < 21) (hs : s ≤ 60) (hd : d ≤ 60) (hq : q ≤ 999) (hb : b ≤ 1) (e0 : M.1 (B + 68) (6 * y + 1) = nI (s * T (12 + 7 * l + 2))) (e1 : M.1 (B + 68) (6 * y + 2) = nI d) (e3 : M.1 (B + 68) (6 * y + 3) = nI q) (e2 : M.1 (B + 68) (6 * y + 4) = nI b) : f_X8_paidIn (B + 59) (nI l) (nI y) M = some (lN (pyV T l s d q b), M) := by
  have w := (hR.2.2.2.1.2.2 l hl).2.2.2.2.1
  have m1 : s * T (12 + 7 * l + 2) ≤ 60 * 99 := Nat.mul_le_mul hs w
  have m2 : d * q ≤ 60 * 999 := Nat.mul_le_mul hd hq
  have h := q_pay_lp hR hl hy hd hb e1 e2 (s * T (12 + 7 * l + 2) + d * q) (min 9 d) 0 FU (by omega) (by unfold FU; omega)
  unfold pyV
  rw [← h, show (if b = 1 then 0 else fb_sm (fun k => T (40 + 10 * l + (k + 1))) 0) = 0 by split <;> rfl]
  simp (disch := omega) only [f_X8_paidIn, reduceIte, ↓reduceIte, ↓ck_i, ↓nm_s, ↓bR_i, ↓bd_i, Option.isSome_some, Option.getD_some, gK, gR, gN, gIs, inb_nI, and_self, nI_clamp, fa_lit, pk_mul, nI_add, n10, n1z, n00, eq_self, not_true_eq_false, not_false_eq_true, hR.1, e0, e1, e3, nI_l, lN_mul, lN_add, Nat.add_zero, Nat.zero_add]
end ASK5
