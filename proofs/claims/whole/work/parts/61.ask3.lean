def nth (P : Nat → Bool) : Nat → Nat → Nat → Option Nat
  | 0, _, _ => none
  | d + 1, k, i => if P k then (if i = 0 then some k else nth P d (k + 1) (i - 1)) else nth P d (k + 1) i
section ASK3
variable {B t l k c : Nat} {T S : Nat → Nat} {M : Mm} {x y z : Int32}
theorem neg1_ne {n : Nat} (hn : n < 2 ^ 31) : ¬ nI n = -nI 1 := by
  rw [fa_eq, nI_toInt hn]
  have h1 : (-nI 1).toInt = -1 := by decide
  omega
theorem p_all_lp (hQ : CQ B t M T S c) {st : Nat} (hst : st < 2 ^ 31) : ∀ (d k n : Nat), k + d = T 0 → d < n → f_X7_countOfAllLoans_4 n B (nI st) (nI (fb_sm (fun l => ctS T S l st) k)) (nI k) M = some (nI (fb_sm (fun l => ctS T S l st) (T 0)), M) := by
  obtain ⟨hC, hB0, hT, hS, hW, hc, hs, hw, hc6⟩ := id hQ
  have w0 := hW.1
  have w1 := hW.2.1
  have c0 := hc.1
  intro d
  induction d with
  | zero =>
    intro k n hk hn
    obtain ⟨n, rfl⟩ : ∃ m, n = m + 1 := ⟨n - 1, by omega⟩
    have hk : k = T 0 := by omega
    subst hk
    simp (disch := omega) only [f_X7_countOfAllLoans_4, reduceIte, ↓reduceIte, gK, gR, gN, gIs, bR_s, bd_s, nm_s, ck, inb_nI, and_self, nI_clamp, fa_lit, pk_mul, nI_add, n10, n1z, n00, eq_self, not_true_eq_false, not_false_eq_true, hC, hB0, hT, hS, c0, nI_leI, Nat.le_refl]
  | succ d ih =>
    intro k n hk hn
    obtain ⟨n, rfl⟩ : ∃ m, n = m + 1 := ⟨n - 1, by omega⟩
    have h1 : ¬ T 0 ≤ k := by omega
    have h2 := p_countBonds hQ (l := k) (by omega) hst
    have ih := ih (k + 1) n (by omega) (by omega)
    rw [fb_sm_succ] at ih
    simp (disch := omega) only [f_X7_countOfAllLoans_4, reduceIte, ↓reduceIte, gK, gR, gN, gIs, bR_s, bd_s, nm_s, ck, inb_nI, and_self, nI_clamp, fa_lit, pk_mul, nI_add, n10, n1z, n00, eq_self, not_true_eq_false, not_false_eq_true, hC, hB0, hT, hS, c0, nI_leI, h1, h2]
    exact ih
theorem q_all_lp (hQ : RQ B M T S c) {st : Nat} (hst : st < 2 ^ 31) : ∀ (d k n : Nat), k + d = T 0 → d < n → f_X8_allSo_4 n (B + 59) (nI st) (nI (fb_sm (fun l => ctS T S l st) k)) (nI k) M = some (nI (fb_sm (fun l => ctS T S l st) (T 0)), M) := by
  obtain ⟨hC, ht8, hn14, hW, hw, hc6⟩ := id hQ
  have w0 := hW.1
  have w1 := hW.2.1
  have c0 := ht8 0 (by omega)
  intro d
  induction d with
  | zero =>
    intro k n hk hn
    obtain ⟨n, rfl⟩ : ∃ m, n = m + 1 := ⟨n - 1, by omega⟩
    have hk : k = T 0 := by omega
    subst hk
    simp (disch := omega) only [f_X8_allSo_4, reduceIte, ↓reduceIte, gK, gR, gN, gIs, bR_s, bd_s, nm_s, ck, inb_nI, and_self, nI_clamp, fa_lit, pk_mul, nI_add, n10, n1z, n00, eq_self, not_true_eq_false, not_false_eq_true, hC, c0, nI_leI, Nat.le_refl]
  | succ d ih =>
    intro k n hk hn
    obtain ⟨n, rfl⟩ : ∃ m, n = m + 1 := ⟨n - 1, by omega⟩
    have h1 : ¬ T 0 ≤ k := by omega
    have h2 := q_howMany hQ (l := k) (by omega) hst
    have ih := ih (k + 1) n (by omega) (by omega)
    rw [fb_sm_succ] at ih
    simp (disch := omega) only [f_X8_allSo_4, reduceIte, ↓reduceIte, gK, gR, gN, gIs, bR_s, bd_s, nm_s, ck, inb_nI, and_self, nI_clamp, fa_lit, pk_mul, nI_add, n10, n1z, n00, eq_self, not_true_eq_false, not_false_eq_true, hC, c0, nI_leI, h1, h2]
    exact ih
theorem p_all (hQ : CQ B t M T S c) {st : Nat} (hst : st < 2 ^ 31) : f_X7_countOfAllLoans B (nI st) M = some (nI (fb_sm (fun l => ctS T S l st) (T 0)), M) := by
  have w0 := hQ.2.2.2.2.1.1
  exact p_all_lp hQ hst (T 0) 0 FU (by omega) (by unfold FU; omega)
theorem q_all (hQ : RQ B M T S c) {st : Nat} (hst : st < 2 ^ 31) : f_X8_allSo (B + 59) (nI st) M = some (nI (fb_sm (fun l => ctS T S l st) (T 0)), M) := by
  have w0 := hQ.2.2.2.1.1
  exact q_all_lp hQ hst (T 0) 0 FU (by omega) (by unfold FU; omega)
theorem p_images (hC : CmA B M.2.2) {im : Nat → Nat} (h : ∀ k, k < 2 → M.1 (B + 27) k = nI (im k)) (hi : ∀ k, k < 2 → im k ≤ 1) : f_X7_countImages B M = some (nI (im 0 + im 1), M) := by
  have h0 := h 0 (by omega)
  have h1 := h 1 (by omega)
  have i0 := hi 0 (by omega)
  have i1 := hi 1 (by omega)
  suffices H : ∀ m, f_X7_countImages_4 (m + 1 + 1 + 1) B (nI 0) (nI 0) M = some (nI (im 0 + im 1), M) from H 199997
  intro m
  have a0 : im 0 = 0 ∨ im 0 = 1 := by omega
  have a1 : im 1 = 0 ∨ im 1 = 1 := by omega
  clear h hi
  rcases a0 with a0 | a0
  · rcases a1 with a1 | a1
    · rw [a0] at h0; rw [a1] at h1
      simp (disch := omega) only [f_X7_countImages_4, reduceIte, ↓reduceIte, gK, gR, gN, gIs, bR_s, bd_s, nm_s, ck, inb_nI, and_self, nI_clamp, fa_lit, pk_mul, nI_add, n10, n1z, n00, eq_self, not_true_eq_false, not_false_eq_true, hC, h0, h1, nI_leI, Nat.reduceLeDiff, Nat.zero_add, Nat.add_zero, Nat.reduceAdd, a0, a1]
    · rw [a0] at h0; rw [a1] at h1
      simp (disch := omega) only [f_X7_countImages_4, reduceIte, ↓reduceIte, gK, gR, gN, gIs, bR_s, bd_s, nm_s, ck, inb_nI, and_self, nI_clamp, fa_lit, pk_mul, nI_add, n10, n1z, n00, eq_self, not_true_eq_false, not_false_eq_true, hC, h0, h1, nI_leI, Nat.reduceLeDiff, Nat.zero_add, Nat.add_zero, Nat.reduceAdd, a0, a1]
  · rcases a1 with a1 | a1
    · rw [a0] at h0; rw [a1] at h1
      simp (disch := omega) only [f_X7_countImages_4, reduceIte, ↓reduceIte, gK, gR, gN, gIs, bR_s, bd_s, nm_s, ck, inb_nI, and_self, nI_clamp, fa_lit, pk_mul, nI_add, n10, n1z, n00, eq_self, not_true_eq_false, not_false_eq_true, hC, h0, h1, nI_leI, Nat.reduceLeDiff, Nat.zero_add, Nat.add_zero, Nat.reduceAdd, a0, a1]
    · rw [a0] at h0; rw [a1] at h1
      simp (disch := omega) only [f_X7_countImages_4, reduceIte, ↓reduceIte, gK, gR, gN, gIs, bR_s, bd_s, nm_s, ck, inb_nI, and_self, nI_clamp, fa_lit, pk_mul, nI_add, n10, n1z, n00, eq_self, not_true_eq_false, not_false_eq_true, hC, h0, h1, nI_leI, Nat.reduceLeDiff, Nat.zero_add, Nat.add_zero, Nat.reduceAdd, a0, a1]
set_option maxHeartbeats 4000000 in
theorem pr_count (hcc : c + 1 ≤ 600) : Pr B c (f_X7_count B x) (f_X8_count (B + 59) x) := by
  refine pr_0 hcc (fun M t T S fed tp nd D im G hQ hR hX hY hA => ?_)
  have hR' := hR.th (j := 0) (v := nI 0)
  obtain ⟨hC, hB0, hT, hS, hW, hc, hs, hw, hc6⟩ := id hQ
  have hD := hR.1
  have hD' := hR'.1
  have w0 := hW.1
  have w1 := hW.2.1
  have rt' := hR'.2.1
  have rn' := hR'.2.2.1
  have t0 := rt' 0 (by omega)
  have t1 := rt' 1 (by omega)
  have n6 := rn' 1206 (by omega)
  have c0 := hc.1
  have c1 := hc.2.1
  have s0 := hs.1
  have x4 := hX.2.2.2.1
  have x6 := hX.2.2.2.2.2.1
  have r2 : (sI M (B + 59) 0 (nI 0)).1 (B + 59) 2 = nI fed := by
    rw [← hY.1]
    show (if _ ∧ 2 = 0 then _ else _) = _
    rw [if_neg (by omega)]
  have r23 : (sI M (B + 59) 0 (nI 0)).1 (B + 59) 23 = nI nd := by
    rw [← hY.2.2.1]
    show (if _ ∧ 23 = 0 then _ else _) = _
    rw [if_neg (by omega)]
  have j0 : (sI M (B + 59) 0 (nI 0)).1 (B + 66) 0 = nI (im 0) := by rw [sI_ne (by omega)]; exact hY.2.2.2.2.1 0 (by omega)
  have j1 : (sI M (B + 59) 0 (nI 0)).1 (B + 66) 1 = nI (im 1) := by rw [sI_ne (by omega)]; exact hY.2.2.2.2.1 1 (by omega)
  rcases ixL x (n := 11) (by omega) with h | ⟨j, hj, rfl⟩
  · have z0 := NL_ne (by omega) h (j := 0) (by omega)
    have z1 := NL_ne (by omega) h (j := 1) (by omega)
    have z2 := NL_ne (by omega) h (j := 2) (by omega)
    have z3 := NL_ne (by omega) h (j := 3) (by omega)
    have z4 := NL_ne (by omega) h (j := 4) (by omega)
    have z5 := NL_ne (by omega) h (j := 5) (by omega)
    have z6 := NL_ne (by omega) h (j := 6) (by omega)
    have z7 := NL_ne (by omega) h (j := 7) (by omega)
    have z8 := NL_ne (by omega) h (j := 8) (by omega)
    have z9 := NL_ne (by omega) h (j := 9) (by omega)
    have z10 := NL_ne (by omega) h (j := 10) (by omega)
    have a0 : (nI 0).toInt = 0 := by decide
    have a3 : (nI 3).toInt = 3 := by decide
    have a7 : (nI 7).toInt = 7 := by decide
    have a11 : (nI 11).toInt = 11 := by decide
    rcases h with h | ⟨h, h2⟩
    · have h3 : x < nI 3 := by rw [fa_lt] at h ⊢; omega
      clear a0 a3 a7 a11
      exact ⟨-nI 1, by simp only [f_X7_count, reduceIte, ↓reduceIte, gK, gR, gN, gIs, bR_s, bd_s, nm_s, ck, inb_nI, and_self, nI_clamp, fa_lit, pk_mul, nI_add, n10, n1z, n00, eq_self, not_true_eq_false, not_false_eq_true, z0, z1, z2, z3, z4, z5, z6, z7, z8, z9, z10, h3], by simp (disch := omega) only [f_X8_count, reduceIte, ↓reduceIte, gK, gR, gN, gIs, bR_s, bd_s, nm_s, ck, inb_nI, and_self, nI_clamp, fa_lit, pk_mul, nI_add, n10, n1z, n00, eq_self, not_true_eq_false, not_false_eq_true, hD, hD', fa_litL, wiN, h3, z0, z1, z2, z3, z4, z5, z6, z7, z8, z9, z10]⟩
    · have h3 : ¬ x < nI 3 := by rw [fa_lt]; rw [fa_le] at h2; omega
      have h7 : nI 7 < x := by rw [fa_lt]; rw [fa_le] at h2; omega
      clear a0 a3 a7 a11
      exact ⟨-nI 1, by simp only [f_X7_count, reduceIte, ↓reduceIte, gK, gR, gN, gIs, bR_s, bd_s, nm_s, ck, inb_nI, and_self, nI_clamp, fa_lit, pk_mul, nI_add, n10, n1z, n00, eq_self, not_true_eq_false, not_false_eq_true, z0, z1, z2, z3, z4, z5, z6, z7, z8, z9, z10, h3, h7], by simp (disch := omega) only [f_X8_count, reduceIte, ↓reduceIte, gK, gR, gN, gIs, bR_s, bd_s, nm_s, ck, inb_nI, and_self, nI_clamp, fa_lit, pk_mul, nI_add, n10, n1z, n00, eq_self, not_true_eq_false, not_false_eq_true, hD, hD', fa_litL, wiN, h3, h7, z0, z1, z2, z3, z4, z5, z6, z7, z8, z9, z10]⟩
  · have p0 := p_all hQ (st := 0) (by omega)
    have p1 := p_all hQ (st := 1) (by omega)
    have p2 := p_all hQ (st := 2) (by omega)
    have p3 := p_all hQ (st := 3) (by omega)
    have p4 := p_all hQ (st := 4) (by omega)
    have q0 := q_all hR' (st := 0) (by omega)
    have q1 := q_all hR' (st := 1) (by omega)
    have q2 := q_all hR' (st := 2) (by omega)
    have q3 := q_all hR' (st := 3) (by omega)
    have q4 := q_all hR' (st := 4) (by omega)
    have b3 : nI 3 - nI 3 = nI 0 := by decide
    have b4 : nI 4 - nI 3 = nI 1 := by decide
    have b5 : nI 5 - nI 3 = nI 2 := by decide
    have b6 : nI 6 - nI 3 = nI 3 := by decide
    have b7 : nI 7 - nI 3 = nI 4 := by decide
    rcases (show j = 0 ∨ j = 1 ∨ j = 2 ∨ j = 3 ∨ j = 4 ∨ j = 5 ∨ j = 6 ∨ j = 7 ∨ j = 8 ∨ j = 9 ∨ j = 10 by omega) with rfl | rfl | rfl | rfl | rfl | rfl | rfl | rfl | rfl | rfl | rfl
    · exact ⟨nI (T 0), by simp (disch := omega) only [Nat.reduceEqDiff, Nat.reduceLT, f_X7_count, reduceIte, ↓reduceIte, gK, gR, gN, gIs, bR_s, bd_s, nm_s, ck, inb_nI, and_self, nI_clamp, fa_lit, pk_mul, nI_add, n10, n1z, n00, eq_self, not_true_eq_false, not_false_eq_true, hC, hB0, hT, hS, c0, nI_eq, nI_ltI], by simp (disch := omega) only [Nat.reduceEqDiff, Nat.reduceLT, f_X8_count, reduceIte, ↓reduceIte, gK, gR, gN, gIs, bR_s, bd_s, nm_s, ck, inb_nI, and_self, nI_clamp, fa_lit, pk_mul, nI_add, n10, n1z, n00, eq_self, not_true_eq_false, not_false_eq_true, hD, hD', fa_litL, wiN, nI_ltI, nI_eq, t0]⟩
    · exact ⟨nI (T 1), by simp (disch := omega) only [Nat.reduceEqDiff, Nat.reduceLT, f_X7_count, reduceIte, ↓reduceIte, gK, gR, gN, gIs, bR_s, bd_s, nm_s, ck, inb_nI, and_self, nI_clamp, fa_lit, pk_mul, nI_add, n10, n1z, n00, eq_self, not_true_eq_false, not_false_eq_true, hC, hB0, hT, hS, c1, nI_eq], by simp (disch := omega) only [Nat.reduceEqDiff, Nat.reduceLT, f_X8_count, reduceIte, ↓reduceIte, gK, gR, gN, gIs, bR_s, bd_s, nm_s, ck, inb_nI, and_self, nI_clamp, fa_lit, pk_mul, nI_add, n10, n1z, n00, eq_self, not_true_eq_false, not_false_eq_true, hD, hD', fa_litL, wiN, nI_ltI, nI_eq, t1]⟩
    · exact ⟨nI (S 1206), by simp (disch := omega) only [Nat.reduceEqDiff, Nat.reduceLT, f_X7_count, reduceIte, ↓reduceIte, gK, gR, gN, gIs, bR_s, bd_s, nm_s, ck, inb_nI, and_self, nI_clamp, fa_lit, pk_mul, nI_add, n10, n1z, n00, eq_self, not_true_eq_false, not_false_eq_true, hC, hB0, hT, hS, s0, nI_eq], by simp (disch := omega) only [Nat.reduceEqDiff, Nat.reduceLT, f_X8_count, reduceIte, ↓reduceIte, gK, gR, gN, gIs, bR_s, bd_s, nm_s, ck, inb_nI, and_self, nI_clamp, fa_lit, pk_mul, nI_add, n10, n1z, n00, eq_self, not_true_eq_false, not_false_eq_true, hD, hD', fa_litL, wiN, nI_ltI, nI_eq, n6]⟩
    · exact ⟨_, by simp (disch := omega) only [Nat.reduceEqDiff, Nat.reduceLT, f_X7_count, reduceIte, ↓reduceIte, gK, gR, gN, gIs, bR_s, bd_s, nm_s, ck, inb_nI, and_self, nI_clamp, fa_lit, pk_mul, nI_add, n10, n1z, n00, eq_self, not_true_eq_false, not_false_eq_true, hC, hB0, hT, hS, nI_eq, nI_ltI, b3, p0]; rfl, by simp (disch := omega) only [Nat.reduceEqDiff, Nat.reduceLT, f_X8_count, reduceIte, ↓reduceIte, gK, gR, gN, gIs, bR_s, bd_s, nm_s, ck, inb_nI, and_self, nI_clamp, fa_lit, pk_mul, nI_add, n10, n1z, n00, eq_self, not_true_eq_false, not_false_eq_true, hD, hD', fa_litL, wiN, nI_ltI, nI_eq, b3, q0]⟩
    · exact ⟨_, by simp (disch := omega) only [Nat.reduceEqDiff, Nat.reduceLT, f_X7_count, reduceIte, ↓reduceIte, gK, gR, gN, gIs, bR_s, bd_s, nm_s, ck, inb_nI, and_self, nI_clamp, fa_lit, pk_mul, nI_add, n10, n1z, n00, eq_self, not_true_eq_false, not_false_eq_true, hC, hB0, hT, hS, nI_eq, nI_ltI, b4, p1]; rfl, by simp (disch := omega) only [Nat.reduceEqDiff, Nat.reduceLT, f_X8_count, reduceIte, ↓reduceIte, gK, gR, gN, gIs, bR_s, bd_s, nm_s, ck, inb_nI, and_self, nI_clamp, fa_lit, pk_mul, nI_add, n10, n1z, n00, eq_self, not_true_eq_false, not_false_eq_true, hD, hD', fa_litL, wiN, nI_ltI, nI_eq, b4, q1]⟩
    · exact ⟨_, by simp (disch := omega) only [Nat.reduceEqDiff, Nat.reduceLT, f_X7_count, reduceIte, ↓reduceIte, gK, gR, gN, gIs, bR_s, bd_s, nm_s, ck, inb_nI, and_self, nI_clamp, fa_lit, pk_mul, nI_add, n10, n1z, n00, eq_self, not_true_eq_false, not_false_eq_true, hC, hB0, hT, hS, nI_eq, nI_ltI, b5, p2]; rfl, by simp (disch := omega) only [Nat.reduceEqDiff, Nat.reduceLT, f_X8_count, reduceIte, ↓reduceIte, gK, gR, gN, gIs, bR_s, bd_s, nm_s, ck, inb_nI, and_self, nI_clamp, fa_lit, pk_mul, nI_add, n10, n1z, n00, eq_self, not_true_eq_false, not_false_eq_true, hD, hD', fa_litL, wiN, nI_ltI, nI_eq, b5, q2]⟩
    · exact ⟨_, by simp (disch := omega) only [Nat.reduceEqDiff, Nat.reduceLT, f_X7_count, reduceIte, ↓reduceIte, gK, gR, gN, gIs, bR_s, bd_s, nm_s, ck, inb_nI, and_self, nI_clamp, fa_lit, pk_mul, nI_add, n10, n1z, n00, eq_self, not_true_eq_false, not_false_eq_true, hC, hB0, hT, hS, nI_eq, nI_ltI, b6, p3]; rfl, by simp (disch := omega) only [Nat.reduceEqDiff, Nat.reduceLT, f_X8_count, reduceIte, ↓reduceIte, gK, gR, gN, gIs, bR_s, bd_s, nm_s, ck, inb_nI, and_self, nI_clamp, fa_lit, pk_mul, nI_add, n10, n1z, n00, eq_self, not_true_eq_false, not_false_eq_true, hD, hD', fa_litL, wiN, nI_ltI, nI_eq, b6, q3]⟩
    · exact ⟨_, by simp (disch := omega) only [Nat.reduceEqDiff, Nat.reduceLT, f_X7_count, reduceIte, ↓reduceIte, gK, gR, gN, gIs, bR_s, bd_s, nm_s, ck, inb_nI, and_self, nI_clamp, fa_lit, pk_mul, nI_add, n10, n1z, n00, eq_self, not_true_eq_false, not_false_eq_true, hC, hB0, hT, hS, nI_eq, nI_ltI, b7, p4]; rfl, by simp (disch := omega) only [Nat.reduceEqDiff, Nat.reduceLT, f_X8_count, reduceIte, ↓reduceIte, gK, gR, gN, gIs, bR_s, bd_s, nm_s, ck, inb_nI, and_self, nI_clamp, fa_lit, pk_mul, nI_add, n10, n1z, n00, eq_self, not_true_eq_false, not_false_eq_true, hD, hD', fa_litL, wiN, nI_ltI, nI_eq, b7, q4]⟩
    · exact ⟨nI nd, by simp (disch := omega) only [Nat.reduceEqDiff, Nat.reduceLT, f_X7_count, reduceIte, ↓reduceIte, gK, gR, gN, gIs, bR_s, bd_s, nm_s, ck, inb_nI, and_self, nI_clamp, fa_lit, pk_mul, nI_add, n10, n1z, n00, eq_self, not_true_eq_false, not_false_eq_true, hC, hB0, hT, hS, nI_eq, x6], by simp (disch := omega) only [Nat.reduceEqDiff, Nat.reduceLT, f_X8_count, reduceIte, ↓reduceIte, gK, gR, gN, gIs, bR_s, bd_s, nm_s, ck, inb_nI, and_self, nI_clamp, fa_lit, pk_mul, nI_add, n10, n1z, n00, eq_self, not_true_eq_false, not_false_eq_true, hD, hD', fa_litL, wiN, nI_ltI, nI_eq, r23]⟩
    · have pi := p_images hC hX.2.2.2.2.2.2.2.1 (fun k hk => (hA.2.2.2.2 k hk).1)
      refine ⟨nI (im 0 + im 1), by simp (disch := omega) only [Nat.reduceEqDiff, Nat.reduceLT, f_X7_count, reduceIte, ↓reduceIte, gK, gR, gN, gIs, bR_s, bd_s, nm_s, ck, inb_nI, and_self, nI_clamp, fa_lit, pk_mul, nI_add, n10, n1z, n00, eq_self, not_true_eq_false, not_false_eq_true, hC, hB0, hT, hS, nI_eq, pi], ?_⟩
      have i0 := (hA.2.2.2.2 0 (by omega)).1
      have i1 := (hA.2.2.2.2 1 (by omega)).1
      rcases (show im 0 = 0 ∨ im 0 = 1 by omega) with a0 | a0
      · rcases (show im 1 = 0 ∨ im 1 = 1 by omega) with a1 | a1
        · rw [a0] at j0; rw [a1] at j1
          simp (disch := omega) only [Nat.reduceEqDiff, Nat.reduceLT, f_X8_count, reduceIte, ↓reduceIte, gK, gR, gN, gIs, bR_s, bd_s, nm_s, ck, inb_nI, and_self, nI_clamp, fa_lit, pk_mul, nI_add, n10, n1z, n00, eq_self, not_true_eq_false, not_false_eq_true, hD, hD', fa_litL, wiN, nI_ltI, nI_eq, j0, j1, a0, a1]
        · rw [a0] at j0; rw [a1] at j1
          simp (disch := omega) only [Nat.reduceEqDiff, Nat.reduceLT, f_X8_count, reduceIte, ↓reduceIte, gK, gR, gN, gIs, bR_s, bd_s, nm_s, ck, inb_nI, and_self, nI_clamp, fa_lit, pk_mul, nI_add, n10, n1z, n00, eq_self, not_true_eq_false, not_false_eq_true, hD, hD', fa_litL, wiN, nI_ltI, nI_eq, j0, j1, a0, a1]
      · rcases (show im 1 = 0 ∨ im 1 = 1 by omega) with a1 | a1
        · rw [a0] at j0; rw [a1] at j1
          simp (disch := omega) only [Nat.reduceEqDiff, Nat.reduceLT, f_X8_count, reduceIte, ↓reduceIte, gK, gR, gN, gIs, bR_s, bd_s, nm_s, ck, inb_nI, and_self, nI_clamp, fa_lit, pk_mul, nI_add, n10, n1z, n00, eq_self, not_true_eq_false, not_false_eq_true, hD, hD', fa_litL, wiN, nI_ltI, nI_eq, j0, j1, a0, a1]
        · rw [a0] at j0; rw [a1] at j1
          simp (disch := omega) only [Nat.reduceEqDiff, Nat.reduceLT, f_X8_count, reduceIte, ↓reduceIte, gK, gR, gN, gIs, bR_s, bd_s, nm_s, ck, inb_nI, and_self, nI_clamp, fa_lit, pk_mul, nI_add, n10, n1z, n00, eq_self, not_true_eq_false, not_false_eq_true, hD, hD', fa_litL, wiN, nI_ltI, nI_eq, j0, j1, a0, a1]
    · exact ⟨nI fed, by simp (disch := omega) only [Nat.reduceEqDiff, Nat.reduceLT, f_X7_count, reduceIte, ↓reduceIte, gK, gR, gN, gIs, bR_s, bd_s, nm_s, ck, inb_nI, and_self, nI_clamp, fa_lit, pk_mul, nI_add, n10, n1z, n00, eq_self, not_true_eq_false, not_false_eq_true, hC, hB0, hT, hS, nI_eq, x4], by simp (disch := omega) only [Nat.reduceEqDiff, Nat.reduceLT, f_X8_count, reduceIte, ↓reduceIte, gK, gR, gN, gIs, bR_s, bd_s, nm_s, ck, inb_nI, and_self, nI_clamp, fa_lit, pk_mul, nI_add, n10, n1z, n00, eq_self, not_true_eq_false, not_false_eq_true, hD, hD', fa_litL, wiN, nI_ltI, nI_eq, r2]⟩
end ASK3
