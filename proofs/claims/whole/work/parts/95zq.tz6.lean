/-! text: a state begins -/
section TZ6
variable {B a d n l g : Nat} {T S : Td} {M N : Mm}
theorem bg_step {β : Type} {s r j n : Nat} {cont : Mm → Option β} (ka : gK M a = 5) (kd : gK M d = 6) (ra : gR M a j = some (a + j)) (rd : gR M d r = some s) (k1 : gK M (a + j) = 10) (k2 : gK M s = 10) (n1 : gN M (a + j) = n) (n2 : gN M s = n) (hn : n < 2 ^ 31) :
    (ck (gK M d = 6) (bR (gR M d r) fun q2 => ck (gK M a = 5) (bR (gR M a j) fun q3 => ck (gK M a = 5) (bR (gR M a j) fun q4 => ck (gK M q4 = 10) (ck (cpOk M q2 (0 : Int32) q3 (0 : Int32) (Int32.ofNat (gN M q4))) (nm (sC M q3 (va_cpy (gI M q2) (gI M q3) ((0 : Int32)).toNatClampNeg ((0 : Int32)).toNatClampNeg ((Int32.ofNat (gN M q4))).toNatClampNeg)) fun M5 => cont M5)))))) = cont (sC M (a + j) (va_cpy (gI M s) (gI M (a + j)) 0 0 n)) := by
  have e0 : (0 : Int32).toNatClampNeg = 0 := by decide
  have e1 : (Int32.ofNat n).toNatClampNeg = n := nI_clamp hn
  have e2 : ¬ Int32.ofNat n < 0 := nI_pos hn
  rw [ck_t kd, rd, bR_s, ck_t ka, ra, bR_s, ck_t ka, bR_s, ck_t k1, ck_t, nm_s, n1, e0, e1]
  refine ⟨k2, k1, by decide, by decide, ?_, ?_, ?_⟩
  · rw [n1]; exact e2
  · rw [n1, n2, e0, e1]; omega
  · rw [n1, e0, e1]; omega
/-- of both shapes, what a state's beginning reads -/
def BgA (a d : Nat) (M : Mm) : Prop := StA a M.2.2 ∧ TmA d M.2.2 ∧ (a + 10 ≤ d ∨ d + 14 ≤ a)
theorem BgA.k (h : BgA a d M) (e : N.2 = M.2) : gK N a = 5 ∧ gK N d = 6 := by
  have h1 := h.1
  have h2 := h.2.1
  refine ⟨?_, ?_⟩
  · show N.2.2.2.1 a = 5
    rw [e]; exact h1.1
  · show N.2.2.2.1 d = 6
    rw [e]; exact h2.1
theorem BgA.r (h : BgA a d M) (e : N.2 = M.2) : gR N a 1 = some (a + 1) ∧ gR N a 2 = some (a + 2) ∧ gR N a 3 = some (a + 3) ∧ gR N a 4 = some (a + 4) ∧ gR N a 5 = some (a + 5) ∧ gR N a 6 = some (a + 6) ∧ gR N a 7 = some (a + 7) ∧ gR N a 8 = some (a + 8) ∧ gR N a 9 = some (a + 9) := by
  have h1 := h.1
  unfold gR
  rw [e]
  simp only [h1, and_self]
theorem BgA.kk (h : BgA a d M) (e : N.2 = M.2) : (gK N (a + 1) = 10 ∧ gN N (a + 1) = 6) ∧ (gK N (a + 2) = 10 ∧ gN N (a + 2) = 4) ∧ (gK N (a + 3) = 10 ∧ gN N (a + 3) = 4) ∧ (gK N (a + 4) = 10 ∧ gN N (a + 4) = 84) ∧ (gK N (a + 5) = 10 ∧ gN N (a + 5) = 84) ∧ (gK N (a + 6) = 10 ∧ gN N (a + 6) = 240) ∧ (gK N (a + 7) = 10 ∧ gN N (a + 7) = 240) ∧ (gK N (a + 8) = 10 ∧ gN N (a + 8) = 240) ∧ (gK N (a + 9) = 10 ∧ gN N (a + 9) = 240) := by
  have h1 := h.1
  unfold gK gN
  rw [e]
  simp only [h1, and_self]
theorem BgA.t (h : BgA a d M) (e : N.2 = M.2) : gR N d 7 = some (d + 3) ∧ gR N d 9 = some (d + 5) ∧ gR N d 14 = some (d + 10) ∧ gR N d 15 = some (d + 11) ∧ gR N d 17 = some (d + 13) := by
  have h1 := h.2.1
  unfold gR
  rw [e]
  simp only [h1, and_self]
theorem BgA.tk (h : BgA a d M) (e : N.2 = M.2) : (gK N (d + 3) = 10 ∧ gN N (d + 3) = 4) ∧ (gK N (d + 5) = 10 ∧ gN N (d + 5) = 4) ∧ (gK N (d + 10) = 10 ∧ gN N (d + 10) = 6) ∧ (gK N (d + 11) = 10 ∧ gN N (d + 11) = 240) ∧ (gK N (d + 13) = 10 ∧ gN N (d + 13) = 84) := by
  have h1 := h.2.1
  unfold gK gN
  rw [e]
  simp only [h1, and_self]
theorem p_bp (hA : BgA a d M) (hC : CD M.1 d T S l 0 g 0) (hW : DW T S l 0 g 0) {i : Nat} (hi : i < l) : ∀ (e y m : Nat) (Q : Mm), Q.2 = M.2 → (∀ b, b < a ∨ a + 10 ≤ b → Q.1 b = M.1 b) → y + e = T (12 + 7 * i + 3) + 1 → 1 ≤ y → e < m → (∀ z, 1 ≤ z → z < y → Q.1 (a + 4) (21 * i + z) = nI (prS T S i z)) → ∃ R, f_X5_beginPrices_2 m a d (nI i) (nI y) Q = some ((), R) ∧ R.2 = M.2 ∧ (∀ b, b ≠ a + 4 → R.1 b = Q.1 b) ∧ (∀ k, k < 21 * i + 1 → R.1 (a + 4) k = Q.1 (a + 4) k) ∧ ∀ z, 1 ≤ z → z ≤ T (12 + 7 * i + 3) → R.1 (a + 4) (21 * i + z) = nI (prS T S i z) := by
  have hb := hW.b
  have hd := hA.2.2
  have f3 := hW.2.2.2.2.2.1 i 3 (by omega) (Or.inl hi)
  have f1 := hW.2.2.2.2.2.1 i 1 (by omega) (Or.inl hi)
  have t3 : T (12 + 7 * i + 3) ≤ 20 := f3.2
  have t1 : T (12 + 7 * i + 1) ≤ 999 := f1.2
  have c5 : M.1 (d + 5) i = nI (T (12 + 7 * i + 3)) := hC.2.2.2.1 i 3 (by omega) (Or.inl hi)
  have c3 : M.1 (d + 3) i = nI (T (12 + 7 * i + 1)) := hC.2.2.2.1 i 1 (by omega) (Or.inl hi)
  have c13 := hC.2.2.2.2.2.2.2.2
  have w13 := hW.2.2.2.2.2.2.2.2.2.2.1
  intro e
  induction e with
  | zero =>
    intro y m Q hQ ho hy hy1 hm hk
    obtain ⟨m, rfl⟩ : ∃ q, m = q + 1 := ⟨m - 1, by omega⟩
    have q5 : gI Q (d + 5) i = nI (T (12 + 7 * i + 3)) := by
      show Q.1 (d + 5) i = _
      rw [ho _ (by omega)]; exact c5
    have i5 : gK Q (d + 5) = 10 ∧ inb (nI i) (gN Q (d + 5)) := ⟨(hA.tk hQ).2.1.1, by rw [(hA.tk hQ).2.1.2]; exact nI_in (by omega) (by omega)⟩
    refine ⟨Q, ?_, hQ, fun _ _ => rfl, fun _ _ => rfl, fun z z1 z2 => hk z z1 (by omega)⟩
    rw [f_X5_beginPrices_2, ck_t (hA.k hQ).2, (hA.t hQ).2.1, bR_s, ck_t i5, gIc (by omega), q5, if_pos (by rw [nI_ltI (by omega) (by omega)]; omega)]
  | succ e ih =>
    intro y m Q hQ ho hy hy1 hm hk
    obtain ⟨m, rfl⟩ : ∃ q, m = q + 1 := ⟨m - 1, by omega⟩
    have q5 : gI Q (d + 5) i = nI (T (12 + 7 * i + 3)) := by
      show Q.1 (d + 5) i = _
      rw [ho _ (by omega)]; exact c5
    have q3 : gI Q (d + 3) i = nI (T (12 + 7 * i + 1)) := by
      show Q.1 (d + 3) i = _
      rw [ho _ (by omega)]; exact c3
    have q13 : gI Q (d + 13) (21 * i + y) = nI (S (1215 + (21 * i + y))) := by
      show Q.1 (d + 13) (21 * i + y) = _
      rw [ho _ (by omega)]; exact c13 _ (by omega)
    have s9 := w13 (21 * i + y) (by omega)
    have i5 : gK Q (d + 5) = 10 ∧ inb (nI i) (gN Q (d + 5)) := ⟨(hA.tk hQ).2.1.1, by rw [(hA.tk hQ).2.1.2]; exact nI_in (by omega) (by omega)⟩
    have i3 : gK Q (d + 3) = 10 ∧ inb (nI i) (gN Q (d + 3)) := ⟨(hA.tk hQ).1.1, by rw [(hA.tk hQ).1.2]; exact nI_in (by omega) (by omega)⟩
    have i13 : gK Q (d + 13) = 10 ∧ inb (nI (21 * i + y)) (gN Q (d + 13)) := ⟨(hA.tk hQ).2.2.2.2.1, by rw [(hA.tk hQ).2.2.2.2.2]; exact nI_in (by omega) (by omega)⟩
    have i4 : gK Q (a + 4) = 10 ∧ inb (nI (21 * i + y)) (gN Q (a + 4)) := ⟨(hA.kk hQ).2.2.2.1.1, by rw [(hA.kk hQ).2.2.2.1.2]; exact nI_in (by omega) (by omega)⟩
    have step : f_X5_beginPrices_2 (m + 1) a d (nI i) (nI y) Q = f_X5_beginPrices_2 m a d (nI i) (nI (y + 1)) (sI Q (a + 4) (21 * i + y) (nI (prS T S i y))) := by
      rw [f_X5_beginPrices_2, ck_t (hA.k hQ).2, (hA.t hQ).2.1, bR_s, ck_t i5, gIc (by omega), q5, if_neg (by rw [nI_ltI (by omega) (by omega)]; omega), p_cellOf, bd_s, ck_t (hA.k hQ).1, (hA.r hQ).2.2.2.1, bR_s, ck_t (hA.k hQ).2, (hA.t hQ).2.2.2.2, bR_s, ck_t i13, gIc (by omega), q13, prS, Nat.add_assoc]
      by_cases z : S (1215 + (21 * i + y)) = 0
      · rw [if_pos z, if_neg (not_not_intro (show nI (S (1215 + (21 * i + y))) = 0 by rw [z]; rfl)), ck_t (hA.k hQ).2, (hA.t hQ).1, bR_s, ck_t i3, ck_t i4, nm_s, gIc (by omega), q3, sIc (by omega), nI_1]
      · rw [if_neg z, if_pos (show ¬ nI (S (1215 + (21 * i + y))) = 0 by rw [show (0 : Int32) = nI 0 from rfl, nI_eq (by omega) (by omega)]; exact z), ck_t (hA.k hQ).2, bR_s, ck_t i13, ck_t i4, nm_s, gIc (by omega), q13, sIc (by omega), nI_1]
    obtain ⟨R, x1, x2, x3, x4, x5⟩ := ih (y + 1) m (sI Q (a + 4) (21 * i + y) (nI (prS T S i y))) hQ (fun b hb => by rw [sI_ne (by omega)]; exact ho b hb) (by omega) (by omega) (by omega) (fun z z1 z2 => by
      by_cases e : z = y
      · rw [e, sI_hit]
      · rw [sI_oth (by omega)]; exact hk z z1 (by omega))
    exact ⟨R, by rw [step]; exact x1, x2, fun b hb => by rw [x3 b hb, sI_ne hb], fun k hk => by rw [x4 k hk, sI_oth (by omega)], x5⟩
theorem p_b83 (hA : BgA a d M) (hC : CD M.1 d T S l 0 g 0) (hW : DW T S l 0 g 0) : ∀ (e i m : Nat) (Q : Mm), Q.2 = M.2 → (∀ b, b < a ∨ a + 10 ≤ b → Q.1 b = M.1 b) → i + e = l → e < m → (∀ k, k < i → Q.1 (a + 2) k = nI (k + 1)) → (∀ k, k < i → ∀ z, 1 ≤ z → z ≤ T (12 + 7 * k + 3) → Q.1 (a + 4) (21 * k + z) = nI (prS T S k z)) → ∃ R, f_X5_begin_83 m a d (nI i) Q = some ((), R) ∧ R.2 = M.2 ∧ (∀ b, b ≠ a + 2 → b ≠ a + 4 → R.1 b = Q.1 b) ∧ (∀ k, k < l → R.1 (a + 2) k = nI (k + 1)) ∧ ∀ k, k < l → ∀ z, 1 ≤ z → z ≤ T (12 + 7 * k + 3) → R.1 (a + 4) (21 * k + z) = nI (prS T S k z) := by
  have hb := hW.b
  have hd := hA.2.2
  intro e
  induction e with
  | zero =>
    intro i m Q hQ ho hi hm h2 h4
    obtain ⟨m, rfl⟩ : ∃ q, m = q + 1 := ⟨m - 1, by omega⟩
    have q0 : gI Q d 0 = nI l := by
      show Q.1 d 0 = _
      rw [ho _ (by omega)]; exact hC.1
    have ei : i = l := by omega
    subst ei
    refine ⟨Q, ?_, hQ, fun _ _ _ => rfl, h2, h4⟩
    rw [f_X5_begin_83, ck_t (hA.k hQ).2, q0, if_pos (by rw [nI_leI (by omega) (by omega)]; omega)]
  | succ e ih =>
    intro i m Q hQ ho hi hm h2 h4
    obtain ⟨m, rfl⟩ : ∃ q, m = q + 1 := ⟨m - 1, by omega⟩
    have q0 : gI Q d 0 = nI l := by
      show Q.1 d 0 = _
      rw [ho _ (by omega)]; exact hC.1
    have i2 : gK Q (a + 2) = 10 ∧ inb (nI i) (gN Q (a + 2)) := ⟨(hA.kk hQ).2.1.1, by rw [(hA.kk hQ).2.1.2]; exact nI_in (by omega) (by omega)⟩
    have f3 := hW.2.2.2.2.2.1 i 3 (by omega) (Or.inl (by omega))
    have t3 : T (12 + 7 * i + 3) ≤ 20 := f3.2
    have y20 : ∀ k, k < i → T (12 + 7 * k + 3) ≤ 20 := fun k hk => (hW.2.2.2.2.2.1 k 3 (by omega) (Or.inl (by omega))).2
    obtain ⟨R, x1, x2, x3, x4, x5⟩ := p_bp hA hC hW (i := i) (by omega) (T (12 + 7 * i + 3)) 1 FU (sI Q (a + 2) i (nI (i + 1))) hQ (fun b hb => by rw [sI_ne (by omega)]; exact ho b hb) (by omega) (by omega) (by unfold FU; omega) (fun z z1 z2 => by omega)
    obtain ⟨R2, y1, y2, y3, y4, y5⟩ := ih (i + 1) m R x2 (fun b hb => by rw [x3 b (by omega), sI_ne (by omega)]; exact ho b hb) (by omega) (by omega) (fun k hk => by
      rw [x3 _ (by omega)]
      by_cases e : k = i
      · rw [e, sI_hit]
      · rw [sI_oth e]; exact h2 k (by omega)) (fun k hk z z1 z2 => by
      by_cases e : k = i
      · subst e; exact x5 z z1 z2
      · have yk := y20 k (by omega)
        rw [x4 _ (by omega), sI_ne (by omega)]; exact h4 k (by omega) z z1 z2)
    refine ⟨R2, ?_, y2, fun b b1 b2 => by rw [y3 b b1 b2, x3 b b2, sI_ne b1], y4, y5⟩
    rw [f_X5_begin_83, ck_t (hA.k hQ).2, q0, if_neg (by rw [nI_leI (by omega) (by omega)]; omega), ck_t (hA.k hQ).1, (hA.r hQ).2.1, bR_s, ck_t i2, nm_s, sIc (by omega), nI_1, ck_t (hA.k (N := sI Q (a + 2) i (nI (i + 1))) hQ).1, f_X5_beginPrices, show (1 : Int32) = nI 1 from rfl, x1, bd_s]
    exact y1
theorem p_begin (hA : BgA a d M) (hC : CD M.1 d T S l 0 g 0) (hW : DW T S l 0 g 0) : ∃ N, f_X5_begin a d M = some ((), N) ∧ N.2 = M.2 ∧ (∀ b, b < a ∨ a + 10 ≤ b → N.1 b = M.1 b) ∧ CS N.1 a T S := by
  have hb := hW.b
  have hd := hA.2.2
  generalize hM1 : sI M a 0 (0 : Int32) = M1
  have m1 : M1.2 = M.2 := by rw [← hM1]; rfl
  have o1 : ∀ b, b ≠ a → M1.1 b = M.1 b := fun b h => by rw [← hM1, sI_ne h]
  have z1 : M1.1 a 0 = nI 0 := by rw [← hM1, sI_hit]; rfl
  generalize hM5 : sC M1 (a + 1) (va_cpy (gI M1 (d + 10)) (gI M1 (a + 1)) 0 0 6) = M5
  have m5 : M5.2 = M.2 := by rw [← hM5]; exact m1
  have o5 : ∀ b, b ≠ a + 1 → M5.1 b = M1.1 b := fun b h => by rw [← hM5, sC_ne h]
  have z5 : ∀ k, k < 6 → M5.1 (a + 1) k = M.1 (d + 10) k := fun k hk => by
    rw [← hM5, sC_hit, pk_cpy_in (by omega) (by omega)]
    show M1.1 (d + 10) _ = _
    rw [o1 _ (by omega), Nat.sub_zero, Nat.zero_add]
  generalize hM9 : sC M5 (a + 7) (va_cpy (gI M5 (d + 11)) (gI M5 (a + 7)) 0 0 240) = M9
  have m9 : M9.2 = M.2 := by rw [← hM9]; exact m5
  have o9 : ∀ b, b ≠ a + 7 → M9.1 b = M5.1 b := fun b h => by rw [← hM9, sC_ne h]
  have z9 : ∀ k, k < 240 → M9.1 (a + 7) k = M.1 (d + 11) k := fun k hk => by
    rw [← hM9, sC_hit, pk_cpy_in (by omega) (by omega)]
    show M5.1 (d + 11) _ = _
    rw [o5 _ (by omega), o1 _ (by omega), Nat.sub_zero, Nat.zero_add]
  obtain ⟨Ma, a1, a2, a3, a4⟩ := p_fill (n := 4) (v := (0 : Int32)) (by omega) (hA.kk m9).2.2.1.1 (hA.kk m9).2.2.1.2
  have ma := a2.trans m9
  obtain ⟨Mb, b1, b2, b3, b4⟩ := p_fill (n := 84) (v := (0 : Int32)) (by omega) (hA.kk ma).2.2.2.2.1.1 (hA.kk ma).2.2.2.2.1.2
  have mb := b2.trans ma
  obtain ⟨Mc, c1, c2, c3, c4⟩ := p_fill (n := 240) (v := (0 : Int32)) (by omega) (hA.kk mb).2.2.2.2.2.1.1 (hA.kk mb).2.2.2.2.2.1.2
  have mc := c2.trans mb
  obtain ⟨Md, d1, d2, d3, d4⟩ := p_fill (n := 240) (v := (0 : Int32)) (by omega) (hA.kk mc).2.2.2.2.2.2.2.1.1 (hA.kk mc).2.2.2.2.2.2.2.1.2
  have md := d2.trans mc
  obtain ⟨Me, e1, e2, e3, e4⟩ := p_fill (n := 240) (v := (0 : Int32)) (by omega) (hA.kk md).2.2.2.2.2.2.2.2.1 (hA.kk md).2.2.2.2.2.2.2.2.2
  have me := e2.trans md
  have oe : ∀ b, b < a ∨ a + 10 ≤ b → Me.1 b = M.1 b := fun b h => by rw [e3 b (by omega), d3 b (by omega), c3 b (by omega), b3 b (by omega), a3 b (by omega), o9 b (by omega), o5 b (by omega), o1 b (by omega)]
  obtain ⟨R, x1, x2, x3, x4, x5⟩ := p_b83 hA hC hW l 0 FU Me me oe (by omega) (by unfold FU; omega) (fun k hk => by omega) (fun k hk => by omega)
  have zero : ∀ q, q < 240 ∨ 480 ≤ q ∧ q < 1200 ∨ q = 1206 ∨ 1211 ≤ q ∧ q < 1215 ∨ 1299 ≤ q → S q = 0 := hW.2.2.2.2.2.2.2.2.2.2.2.2
  have T0 := hW.1
  have T1 := hW.2.1
  refine ⟨R, ?_, x2, fun b h => by rw [x3 b (by omega) (by omega), oe b h], ?_, fun h hh => ?_, fun k hk => ⟨?_, ?_⟩, fun k hk y y1 y2 => ⟨?_, ?_⟩, fun k hk i hi => ⟨?_, ?_, ?_, ?_⟩⟩
  · rw [f_X5_begin, ck_t (hA.k (N := M) rfl).1, nm_s, hM1]
    rw [bg_step (n := 6) (hA.k m1).1 (hA.k m1).2 (hA.r m1).1 (hA.t m1).2.2.1 (hA.kk m1).1.1 (hA.tk m1).2.2.1.1 (hA.kk m1).1.2 (hA.tk m1).2.2.1.2 (by omega), hM5]
    rw [bg_step (n := 240) (hA.k m5).1 (hA.k m5).2 (hA.r m5).2.2.2.2.2.2.1 (hA.t m5).2.2.2.1 (hA.kk m5).2.2.2.2.2.2.1.1 (hA.tk m5).2.2.2.1.1 (hA.kk m5).2.2.2.2.2.2.1.2 (hA.tk m5).2.2.2.1.2 (by omega), hM9]
    rw [ck_t (hA.k m9).1, (hA.r m9).2.2.1, bR_s, a1, bd_s, ck_t (hA.k ma).1, (hA.r ma).2.2.2.2.1, bR_s, b1, bd_s, ck_t (hA.k mb).1, (hA.r mb).2.2.2.2.2.1, bR_s, c1, bd_s, ck_t (hA.k mc).1, (hA.r mc).2.2.2.2.2.2.2.1, bR_s, d1, bd_s, ck_t (hA.k md).1, (hA.r md).2.2.2.2.2.2.2.2, bR_s, e1, bd_s]
    exact x1
  · rw [x3 a (by omega) (by omega), e3 a (by omega), d3 a (by omega), c3 a (by omega), b3 a (by omega), a3 a (by omega), o9 a (by omega), o5 a (by omega), z1, zero 1206 (by omega)]
  · rw [x3 _ (by omega) (by omega), e3 _ (by omega), d3 _ (by omega), c3 _ (by omega), b3 _ (by omega), a3 _ (by omega), o9 _ (by omega), z5 h (by omega)]
    exact hC.2.2.2.2.2.1 h (Or.inl (by omega))
  · rw [x4 k (by omega), hW.2.2.2.2.2.2.2.2.2.2.2.1 k (by omega)]
  · rw [x3 _ (by omega) (by omega), e3 _ (by omega), d3 _ (by omega), c3 _ (by omega), b3 _ (by omega), a4 k (by omega), zero (1211 + k) (by omega)]; rfl
  · exact x5 k (by omega) y y1 y2
  · have := (hW.2.2.2.2.2.1 k 3 (by omega) (Or.inl (by omega))).2
    have y20 : T (12 + 7 * k + 3) ≤ 20 := this
    rw [x3 _ (by omega) (by omega), e3 _ (by omega), d3 _ (by omega), c3 _ (by omega), b4 _ (by omega), zero (1299 + 21 * k + y) (by omega)]; rfl
  all_goals have t60 : T (12 + 7 * k + 0) ≤ 60 := (hW.2.2.2.2.2.1 k 0 (by omega) (Or.inl (by omega))).2
  all_goals have i60 : i < 60 := Nat.lt_of_lt_of_le hi t60
  · rw [x3 _ (by omega) (by omega), e3 _ (by omega), d3 _ (by omega), c4 _ (by omega), zero (60 * k + i) (by omega)]; rfl
  · rw [x3 _ (by omega) (by omega), e3 _ (by omega), d3 _ (by omega), c3 _ (by omega), b3 _ (by omega), a3 _ (by omega), z9 _ (by omega), Nat.add_assoc]
    exact hC.2.2.2.2.2.2.1 (60 * k + i) (by omega)
  · rw [x3 _ (by omega) (by omega), e3 _ (by omega), d4 _ (by omega), zero (480 + 60 * k + i) (by omega)]; rfl
  · rw [x3 _ (by omega) (by omega), e4 _ (by omega), zero (720 + 60 * k + i) (by omega)]; rfl
end TZ6
