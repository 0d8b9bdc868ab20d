section ASK2
variable {B t l k c : Nat} {T S : Nat → Nat} {M : Mm} {x y z : Int32}
theorem sh_le (hW : TW T) (hw : SW T S c) (hl : l < T 0) (hk : k < T (12 + 7 * l)) (w : Nat) : shS T S l k w ≤ 10998 := by
  have a := hW.2.2 l hl
  have v := hw.2.2.2.2.1 l hl k hk
  have d1 : dsS T S l k ≤ 10998 := by
    unfold dsS
    split
    · have := a.2.2.2.2.2.2.2.2.2.2.2 (S (720 + 60 * l + k)) (by omega)
      omega
    · omega
  have p1 : ∀ q, 1 ≤ q → q ≤ T (12 + 7 * l + 3) → prS T S l q ≤ 999 := by
    intro q h1 h2
    unfold prS
    split
    · omega
    · exact (hw.2.2.2.1 l hl q h1 h2).1
  have m1 : T (12 + 7 * l + 2) * (if S (60 * l + k) = 0 then S 1206 else S (480 + 60 * l + k)) ≤ 99 * 60 := by
    refine Nat.mul_le_mul a.2.2.2.2.1 ?_
    have := hw.1
    split <;> omega
  unfold shS
  split
  · omega
  · split <;> omega
  · split
    · rename_i h
      have := p1 (S (480 + 60 * l + k)) (by omega) (by omega)
      omega
    · omega
  · split <;> omega
  · split <;> omega
  · split <;> omega
set_option maxHeartbeats 4000000 in
theorem p_sh0 (hQ : CQ B t M T S c) (hl : l < T 0) (hk : k < T (12 + 7 * l)) : f_X7_sharePaid B (nI l) (nI (60 * l + k)) (nI 0) M = some (nI (shS T S l k 0), M) := by
  obtain ⟨hC, hB0, hT, hS, hW, hc, hs, hw, hc6⟩ := id hQ
  have w0 := hW.1
  have w1 := hW.2.1
  have a := hW.2.2 l hl
  have c2 := hc.2.2.1 l hl
  have s3 := hs.2.2.2.2 l hl k hk
  have s6 := hs.1
  have v := hw.2.2.2.2.1 l hl k hk
  by_cases h : S (60 * l + k) = 0
  · simp (disch := omega) only [Nat.reduceEqDiff, f_X7_sharePaid, gK, gR, gN, gIs, bR_s, bd_s, nm_s, ck, inb_nI, and_self, ite_true, ite_false, nI_clamp, fa_lit, pk_mul, nI_add, n10, n1z, n00, eq_self, not_true_eq_false, not_false_eq_true, hC, hB0, hT, hS, c2, s3, s6, nI_eq, shS, h]
  · simp (disch := omega) only [Nat.reduceEqDiff, f_X7_sharePaid, gK, gR, gN, gIs, bR_s, bd_s, nm_s, ck, inb_nI, and_self, ite_true, ite_false, nI_clamp, fa_lit, pk_mul, nI_add, n10, n1z, n00, eq_self, not_true_eq_false, not_false_eq_true, hC, hB0, hT, hS, c2, s3, s6, nI_eq, shS, h]
set_option maxHeartbeats 4000000 in
theorem p_sh1 (hQ : CQ B t M T S c) (hl : l < T 0) (hk : k < T (12 + 7 * l)) : f_X7_sharePaid B (nI l) (nI (60 * l + k)) (nI 1) M = some (nI (shS T S l k 1), M) := by
  obtain ⟨hC, hB0, hT, hS, hW, hc, hs, hw, hc6⟩ := id hQ
  have w0 := hW.1
  have w1 := hW.2.1
  have a := hW.2.2 l hl
  have c2 := hc.2.2.1 l hl
  have s3 := hs.2.2.2.2 l hl k hk
  have s6 := hs.1
  have v := hw.2.2.2.2.1 l hl k hk
  by_cases h : S (60 * l + k) = 2
  · have hd := p_drawnSum hQ hl hk (by omega)
    simp (disch := omega) only [Nat.reduceEqDiff, f_X7_sharePaid, gK, gR, gN, gIs, bR_s, bd_s, nm_s, ck, inb_nI, and_self, ite_true, ite_false, nI_clamp, fa_lit, pk_mul, nI_add, n10, n1z, n00, eq_self, not_true_eq_false, not_false_eq_true, hC, hB0, hT, hS, c2, s3, s6, nI_eq, shS, h, hd]
  · simp (disch := omega) only [Nat.reduceEqDiff, f_X7_sharePaid, gK, gR, gN, gIs, bR_s, bd_s, nm_s, ck, inb_nI, and_self, ite_true, ite_false, nI_clamp, fa_lit, pk_mul, nI_add, n10, n1z, n00, eq_self, not_true_eq_false, not_false_eq_true, hC, hB0, hT, hS, c2, s3, s6, nI_eq, shS, h]
set_option maxHeartbeats 4000000 in
theorem p_sh2 (hQ : CQ B t M T S c) (hl : l < T 0) (hk : k < T (12 + 7 * l)) : f_X7_sharePaid B (nI l) (nI (60 * l + k)) (nI 2) M = some (nI (shS T S l k 2), M) := by
  obtain ⟨hC, hB0, hT, hS, hW, hc, hs, hw, hc6⟩ := id hQ
  have w0 := hW.1
  have w1 := hW.2.1
  have a := hW.2.2 l hl
  have c2 := hc.2.2.1 l hl
  have s3 := hs.2.2.2.2 l hl k hk
  have s6 := hs.1
  have v := hw.2.2.2.2.1 l hl k hk
  by_cases h : S (60 * l + k) = 3
  · have hp := (hs.2.2.2.1 l hl (S (480 + 60 * l + k)) (by omega) (by omega)).1
    simp (disch := omega) only [Nat.reduceEqDiff, f_X7_sharePaid, gK, gR, gN, gIs, bR_s, bd_s, nm_s, ck, inb_nI, and_self, ite_true, ite_false, nI_clamp, fa_lit, pk_mul, nI_add, n10, n1z, n00, eq_self, not_true_eq_false, not_false_eq_true, hC, hB0, hT, hS, c2, s3, s6, nI_eq, shS, h, p_cellOf, hp]
  · simp (disch := omega) only [Nat.reduceEqDiff, f_X7_sharePaid, gK, gR, gN, gIs, bR_s, bd_s, nm_s, ck, inb_nI, and_self, ite_true, ite_false, nI_clamp, fa_lit, pk_mul, nI_add, n10, n1z, n00, eq_self, not_true_eq_false, not_false_eq_true, hC, hB0, hT, hS, c2, s3, s6, nI_eq, shS, h]
set_option maxHeartbeats 4000000 in
theorem p_sh3 (hQ : CQ B t M T S c) (hl : l < T 0) (hk : k < T (12 + 7 * l)) : f_X7_sharePaid B (nI l) (nI (60 * l + k)) (nI 3) M = some (nI (shS T S l k 3), M) := by
  obtain ⟨hC, hB0, hT, hS, hW, hc, hs, hw, hc6⟩ := id hQ
  have w0 := hW.1
  have w1 := hW.2.1
  have a := hW.2.2 l hl
  have c2 := hc.2.2.1 l hl
  have s3 := hs.2.2.2.2 l hl k hk
  have s6 := hs.1
  have v := hw.2.2.2.2.1 l hl k hk
  by_cases h : S (60 * l + k) = 4
  · have hd := p_drawnSum hQ hl hk (by omega)
    simp (disch := omega) only [Nat.reduceEqDiff, f_X7_sharePaid, gK, gR, gN, gIs, bR_s, bd_s, nm_s, ck, inb_nI, and_self, ite_true, ite_false, nI_clamp, fa_lit, pk_mul, nI_add, n10, n1z, n00, eq_self, not_true_eq_false, not_false_eq_true, hC, hB0, hT, hS, c2, s3, s6, nI_eq, shS, h, hd]
  · simp (disch := omega) only [Nat.reduceEqDiff, f_X7_sharePaid, gK, gR, gN, gIs, bR_s, bd_s, nm_s, ck, inb_nI, and_self, ite_true, ite_false, nI_clamp, fa_lit, pk_mul, nI_add, n10, n1z, n00, eq_self, not_true_eq_false, not_false_eq_true, hC, hB0, hT, hS, c2, s3, s6, nI_eq, shS, h]
set_option maxHeartbeats 4000000 in
theorem p_sh4 (hQ : CQ B t M T S c) (hl : l < T 0) (hk : k < T (12 + 7 * l)) : f_X7_sharePaid B (nI l) (nI (60 * l + k)) (nI 4) M = some (nI (shS T S l k 4), M) := by
  obtain ⟨hC, hB0, hT, hS, hW, hc, hs, hw, hc6⟩ := id hQ
  have w0 := hW.1
  have w1 := hW.2.1
  have a := hW.2.2 l hl
  have c2 := hc.2.2.1 l hl
  have s3 := hs.2.2.2.2 l hl k hk
  have s6 := hs.1
  have v := hw.2.2.2.2.1 l hl k hk
  by_cases h : S (60 * l + k) = 1
  · have hd := p_drawnSum hQ hl hk (by omega)
    simp (disch := omega) only [Nat.reduceEqDiff, f_X7_sharePaid, gK, gR, gN, gIs, bR_s, bd_s, nm_s, ck, inb_nI, and_self, ite_true, ite_false, nI_clamp, fa_lit, pk_mul, nI_add, n10, n1z, n00, eq_self, not_true_eq_false, not_false_eq_true, hC, hB0, hT, hS, c2, s3, s6, nI_eq, shS, h, hd]
  · simp (disch := omega) only [Nat.reduceEqDiff, f_X7_sharePaid, gK, gR, gN, gIs, bR_s, bd_s, nm_s, ck, inb_nI, and_self, ite_true, ite_false, nI_clamp, fa_lit, pk_mul, nI_add, n10, n1z, n00, eq_self, not_true_eq_false, not_false_eq_true, hC, hB0, hT, hS, c2, s3, s6, nI_eq, shS, h]
set_option maxHeartbeats 4000000 in
theorem p_sh5 (hQ : CQ B t M T S c) (hl : l < T 0) (hk : k < T (12 + 7 * l)) : f_X7_sharePaid B (nI l) (nI (60 * l + k)) (nI 5) M = some (nI (shS T S l k 5), M) := by
  obtain ⟨hC, hB0, hT, hS, hW, hc, hs, hw, hc6⟩ := id hQ
  have w0 := hW.1
  have w1 := hW.2.1
  have a := hW.2.2 l hl
  have c2 := hc.2.2.1 l hl
  have s3 := hs.2.2.2.2 l hl k hk
  have s6 := hs.1
  have v := hw.2.2.2.2.1 l hl k hk
  by_cases h : S (60 * l + k) = 3
  · have hp := (hs.2.2.2.1 l hl (S (480 + 60 * l + k)) (by omega) (by omega)).1
    have hle := v.2.2.2.2.2.2.2.2.1 h
    simp (disch := omega) only [Nat.reduceEqDiff, f_X7_sharePaid, gK, gR, gN, gIs, bR_s, bd_s, nm_s, ck, inb_nI, and_self, ite_true, ite_false, nI_clamp, fa_lit, pk_mul, nI_add, n10, n1z, n00, eq_self, not_true_eq_false, not_false_eq_true, hC, hB0, hT, hS, c2, s3, s6, nI_eq, shS, h, p_cellOf, hp, pk_sub hle]
  · simp (disch := omega) only [Nat.reduceEqDiff, f_X7_sharePaid, gK, gR, gN, gIs, bR_s, bd_s, nm_s, ck, inb_nI, and_self, ite_true, ite_false, nI_clamp, fa_lit, pk_mul, nI_add, n10, n1z, n00, eq_self, not_true_eq_false, not_false_eq_true, hC, hB0, hT, hS, c2, s3, s6, nI_eq, shS, h]
theorem p_sharePaid (hQ : CQ B t M T S c) (hl : l < T 0) (hk : k < T (12 + 7 * l)) {w : Nat} (hw6 : w < 6) : f_X7_sharePaid B (nI l) (nI (60 * l + k)) (nI w) M = some (nI (shS T S l k w), M) := by
  rcases (show w = 0 ∨ w = 1 ∨ w = 2 ∨ w = 3 ∨ w = 4 ∨ w = 5 by omega) with rfl | rfl | rfl | rfl | rfl | rfl
  · exact p_sh0 hQ hl hk
  · exact p_sh1 hQ hl hk
  · exact p_sh2 hQ hl hk
  · exact p_sh3 hQ hl hk
  · exact p_sh4 hQ hl hk
  · exact p_sh5 hQ hl hk
end ASK2
