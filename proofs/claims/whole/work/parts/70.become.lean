def stN (j : Nat) : Nat := ([1, 6, 4, 4, 84, 84, 240, 240, 240, 240] : List Nat).getD j 0
section BECOME
variable {a b : Nat} {M : Mm}
theorem bc_step {β : Type} {j n : Nat} {cont : Mm → Option β} (ka : gK M a = 5) (kb : gK M b = 5) (ra : gR M a j = some (a + j)) (rb : gR M b j = some (b + j)) (k1 : gK M (a + j) = 10) (k2 : gK M (b + j) = 10) (n1 : gN M (a + j) = n) (n2 : gN M (b + j) = n) (hn : n < 2 ^ 31) :
    (ck (gK M b = 5) (bR (gR M b j) fun q2 => ck (gK M a = 5) (bR (gR M a j) fun q3 => ck (gK M a = 5) (bR (gR M a j) fun q4 => ck (gK M q4 = 10) (ck (cpOk M q2 (0 : Int32) q3 (0 : Int32) (Int32.ofNat (gN M q4))) (nm (sC M q3 (va_cpy (gI M q2) (gI M q3) ((0 : Int32)).toNatClampNeg ((0 : Int32)).toNatClampNeg ((Int32.ofNat (gN M q4))).toNatClampNeg)) fun M5 => cont M5)))))) = cont (sC M (a + j) (va_cpy (gI M (b + j)) (gI M (a + j)) 0 0 n)) := by
  have e0 : (0 : Int32).toNatClampNeg = 0 := by decide
  have e1 : (Int32.ofNat n).toNatClampNeg = n := nI_clamp hn
  have e2 : ¬ Int32.ofNat n < 0 := nI_pos hn
  rw [ck_t kb, rb, bR_s, ck_t ka, ra, bR_s, ck_t ka, bR_s, ck_t k1, ck_t, nm_s, n1, e0, e1]
  refine ⟨k2, k1, by decide, by decide, ?_, ?_, ?_⟩
  · rw [n1]; exact e2
  · rw [n1, n2, e0, e1]; omega
  · rw [n1, e0, e1]; omega
/-- the first i arrays are copied -/
def Bc (a b : Nat) (M : Mm) (i : Nat) (N : Mm) : Prop := N.2 = M.2 ∧ (∀ c, c < a ∨ a + 10 ≤ c → N.1 c = M.1 c) ∧ N.1 a 0 = M.1 b 0 ∧ ∀ j, 1 ≤ j → j ≤ i → ∀ k, k < stN j → N.1 (a + j) k = M.1 (b + j) k
theorem Bc.next {i n : Nat} {N : Mm} (h : Bc a b M i N) (hd : a + 10 ≤ b ∨ b + 10 ≤ a) (hi : i < 9) (hn : n = stN (i + 1)) : Bc a b M (i + 1) (sC N (a + (i + 1)) (va_cpy (gI N (b + (i + 1))) (gI N (a + (i + 1))) 0 0 n)) := by
  obtain ⟨h1, h2, h3, h4⟩ := h
  have hne : ∀ c, c ≠ a + (i + 1) → (sC N (a + (i + 1)) (va_cpy (gI N (b + (i + 1))) (gI N (a + (i + 1))) 0 0 n)).1 c = N.1 c := fun c hc => by
    funext k
    show (if c = a + (i + 1) then _ else _) = _
    rw [if_neg hc]
  refine ⟨h1, fun c hc => ?_, ?_, fun j j1 j2 k hk => ?_⟩
  · rw [hne c (by omega)]; exact h2 c hc
  · rw [hne a (by omega)]; exact h3
  · by_cases hj : j = i + 1
    · subst hj
      show (if a + (i + 1) = a + (i + 1) then va_cpy _ _ 0 0 n k else _) = _
      rw [if_pos rfl, pk_cpy_in (by omega) (by omega)]
      show N.1 (b + (i + 1)) _ = _
      rw [h2 (b + (i + 1)) (by omega), Nat.sub_zero, Nat.zero_add]
    · rw [hne (a + j) (by omega)]
      exact h4 j j1 (by omega) k hk
set_option maxHeartbeats 4000000 in
theorem p_become (hA : StA a M.2.2) (hB : StA b M.2.2) (hd : a + 10 ≤ b ∨ b + 10 ≤ a) : ∃ N, f_X5_become a b M = some ((), N) ∧ Bc a b M 9 N := by
  unfold f_X5_become
  rw [ck_t (show gK M b = 5 from hB.1), ck_t (show gK M a = 5 from hA.1), nm_s]
  have c : Bc a b M 0 (sI M a 0 (gI M b 0)) := by
    refine ⟨rfl, fun c hc => sI_ne (by omega), ?_, fun j j1 j2 => by omega⟩
    show (if a = a ∧ 0 = 0 then _ else _) = _
    rw [if_pos ⟨rfl, rfl⟩]
    rfl
  generalize sI M a 0 (gI M b 0) = N at *
  have z0 : N.2.2 = M.2.2 := congrArg Prod.snd c.1
  rw [bc_step (a := a) (b := b) (j := 1) (n := 6) (by show N.2.2.2.1 a = 5; rw [z0]; exact hA.1) (by show N.2.2.2.1 b = 5; rw [z0]; exact hB.1) (by show N.2.2.1 a 1 = _; rw [z0]; exact hA.2.1) (by show N.2.2.1 b 1 = _; rw [z0]; exact hB.2.1) (by show N.2.2.2.1 (a + 1) = _; rw [z0]; exact hA.2.2.1) (by show N.2.2.2.1 (b + 1) = _; rw [z0]; exact hB.2.2.1) (by show N.2.2.2.2.1 (a + 1) = _; rw [z0]; exact hA.2.2.2.1) (by show N.2.2.2.2.1 (b + 1) = _; rw [z0]; exact hB.2.2.2.1) (by decide)]
  replace c : Bc a b M 1 (sC N (a + 1) (va_cpy (gI N (b + 1)) (gI N (a + 1)) 0 0 6)) := c.next hd (by omega) (by decide)
  clear z0
  generalize sC N (a + 1) (va_cpy (gI N (b + 1)) (gI N (a + 1)) 0 0 6) = N at c ⊢
  have z1 : N.2.2 = M.2.2 := congrArg Prod.snd c.1
  rw [bc_step (a := a) (b := b) (j := 2) (n := 4) (by show N.2.2.2.1 a = 5; rw [z1]; exact hA.1) (by show N.2.2.2.1 b = 5; rw [z1]; exact hB.1) (by show N.2.2.1 a 2 = _; rw [z1]; exact hA.2.2.2.2.1) (by show N.2.2.1 b 2 = _; rw [z1]; exact hB.2.2.2.2.1) (by show N.2.2.2.1 (a + 2) = _; rw [z1]; exact hA.2.2.2.2.2.1) (by show N.2.2.2.1 (b + 2) = _; rw [z1]; exact hB.2.2.2.2.2.1) (by show N.2.2.2.2.1 (a + 2) = _; rw [z1]; exact hA.2.2.2.2.2.2.1) (by show N.2.2.2.2.1 (b + 2) = _; rw [z1]; exact hB.2.2.2.2.2.2.1) (by decide)]
  replace c : Bc a b M 2 (sC N (a + 2) (va_cpy (gI N (b + 2)) (gI N (a + 2)) 0 0 4)) := c.next hd (by omega) (by decide)
  clear z1
  generalize sC N (a + 2) (va_cpy (gI N (b + 2)) (gI N (a + 2)) 0 0 4) = N at c ⊢
  have z2 : N.2.2 = M.2.2 := congrArg Prod.snd c.1
  rw [bc_step (a := a) (b := b) (j := 3) (n := 4) (by show N.2.2.2.1 a = 5; rw [z2]; exact hA.1) (by show N.2.2.2.1 b = 5; rw [z2]; exact hB.1) (by show N.2.2.1 a 3 = _; rw [z2]; exact hA.2.2.2.2.2.2.2.1) (by show N.2.2.1 b 3 = _; rw [z2]; exact hB.2.2.2.2.2.2.2.1) (by show N.2.2.2.1 (a + 3) = _; rw [z2]; exact hA.2.2.2.2.2.2.2.2.1) (by show N.2.2.2.1 (b + 3) = _; rw [z2]; exact hB.2.2.2.2.2.2.2.2.1) (by show N.2.2.2.2.1 (a + 3) = _; rw [z2]; exact hA.2.2.2.2.2.2.2.2.2.1) (by show N.2.2.2.2.1 (b + 3) = _; rw [z2]; exact hB.2.2.2.2.2.2.2.2.2.1) (by decide)]
  replace c : Bc a b M 3 (sC N (a + 3) (va_cpy (gI N (b + 3)) (gI N (a + 3)) 0 0 4)) := c.next hd (by omega) (by decide)
  clear z2
  generalize sC N (a + 3) (va_cpy (gI N (b + 3)) (gI N (a + 3)) 0 0 4) = N at c ⊢
  have z3 : N.2.2 = M.2.2 := congrArg Prod.snd c.1
  rw [bc_step (a := a) (b := b) (j := 4) (n := 84) (by show N.2.2.2.1 a = 5; rw [z3]; exact hA.1) (by show N.2.2.2.1 b = 5; rw [z3]; exact hB.1) (by show N.2.2.1 a 4 = _; rw [z3]; exact hA.2.2.2.2.2.2.2.2.2.2.1) (by show N.2.2.1 b 4 = _; rw [z3]; exact hB.2.2.2.2.2.2.2.2.2.2.1) (by show N.2.2.2.1 (a + 4) = _; rw [z3]; exact hA.2.2.2.2.2.2.2.2.2.2.2.1) (by show N.2.2.2.1 (b + 4) = _; rw [z3]; exact hB.2.2.2.2.2.2.2.2.2.2.2.1) (by show N.2.2.2.2.1 (a + 4) = _; rw [z3]; exact hA.2.2.2.2.2.2.2.2.2.2.2.2.1) (by show N.2.2.2.2.1 (b + 4) = _; rw [z3]; exact hB.2.2.2.2.2.2.2.2.2.2.2.2.1) (by decide)]
  replace c : Bc a b M 4 (sC N (a + 4) (va_cpy (gI N (b + 4)) (gI N (a + 4)) 0 0 84)) := c.next hd (by omega) (by decide)
  clear z3
  generalize sC N (a + 4) (va_cpy (gI N (b + 4)) (gI N (a + 4)) 0 0 84) = N at c ⊢
  have z4 : N.2.2 = M.2.2 := congrArg Prod.snd c.1
  rw [bc_step (a := a) (b := b) (j := 5) (n := 84) (by show N.2.2.2.1 a = 5; rw [z4]; exact hA.1) (by show N.2.2.2.1 b = 5; rw [z4]; exact hB.1) (by show N.2.2.1 a 5 = _; rw [z4]; exact hA.2.2.2.2.2.2.2.2.2.2.2.2.2.1) (by show N.2.2.1 b 5 = _; rw [z4]; exact hB.2.2.2.2.2.2.2.2.2.2.2.2.2.1) (by show N.2.2.2.1 (a + 5) = _; rw [z4]; exact hA.2.2.2.2.2.2.2.2.2.2.2.2.2.2.1) (by show N.2.2.2.1 (b + 5) = _; rw [z4]; exact hB.2.2.2.2.2.2.2.2.2.2.2.2.2.2.1) (by show N.2.2.2.2.1 (a + 5) = _; rw [z4]; exact hA.2.2.2.2.2.2.2.2.2.2.2.2.2.2.2.1) (by show N.2.2.2.2.1 (b + 5) = _; rw [z4]; exact hB.2.2.2.2.2.2.2.2.2.2.2.2.2.2.2.1) (by decide)]
  replace c : Bc a b M 5 (sC N (a + 5) (va_cpy (gI N (b + 5)) (gI N (a + 5)) 0 0 84)) := c.next hd (by omega) (by decide)
  clear z4
  generalize sC N (a + 5) (va_cpy (gI N (b + 5)) (gI N (a + 5)) 0 0 84) = N at c ⊢
  have z5 : N.2.2 = M.2.2 := congrArg Prod.snd c.1
  rw [bc_step (a := a) (b := b) (j := 6) (n := 240) (by show N.2.2.2.1 a = 5; rw [z5]; exact hA.1) (by show N.2.2.2.1 b = 5; rw [z5]; exact hB.1) (by show N.2.2.1 a 6 = _; rw [z5]; exact hA.2.2.2.2.2.2.2.2.2.2.2.2.2.2.2.2.1) (by show N.2.2.1 b 6 = _; rw [z5]; exact hB.2.2.2.2.2.2.2.2.2.2.2.2.2.2.2.2.1) (by show N.2.2.2.1 (a + 6) = _; rw [z5]; exact hA.2.2.2.2.2.2.2.2.2.2.2.2.2.2.2.2.2.1) (by show N.2.2.2.1 (b + 6) = _; rw [z5]; exact hB.2.2.2.2.2.2.2.2.2.2.2.2.2.2.2.2.2.1) (by show N.2.2.2.2.1 (a + 6) = _; rw [z5]; exact hA.2.2.2.2.2.2.2.2.2.2.2.2.2.2.2.2.2.2.1) (by show N.2.2.2.2.1 (b + 6) = _; rw [z5]; exact hB.2.2.2.2.2.2.2.2.2.2.2.2.2.2.2.2.2.2.1) (by decide)]
  replace c : Bc a b M 6 (sC N (a + 6) (va_cpy (gI N (b + 6)) (gI N (a + 6)) 0 0 240)) := c.next hd (by omega) (by decide)
  clear z5
  generalize sC N (a + 6) (va_cpy (gI N (b + 6)) (gI N (a + 6)) 0 0 240) = N at c ⊢
  have z6 : N.2.2 = M.2.2 := congrArg Prod.snd c.1
  rw [bc_step (a := a) (b := b) (j := 7) (n := 240) (by show N.2.2.2.1 a = 5; rw [z6]; exact hA.1) (by show N.2.2.2.1 b = 5; rw [z6]; exact hB.1) (by show N.2.2.1 a 7 = _; rw [z6]; exact hA.2.2.2.2.2.2.2.2.2.2.2.2.2.2.2.2.2.2.2.1) (by show N.2.2.1 b 7 = _; rw [z6]; exact hB.2.2.2.2.2.2.2.2.2.2.2.2.2.2.2.2.2.2.2.1) (by show N.2.2.2.1 (a + 7) = _; rw [z6]; exact hA.2.2.2.2.2.2.2.2.2.2.2.2.2.2.2.2.2.2.2.2.1) (by show N.2.2.2.1 (b + 7) = _; rw [z6]; exact hB.2.2.2.2.2.2.2.2.2.2.2.2.2.2.2.2.2.2.2.2.1) (by show N.2.2.2.2.1 (a + 7) = _; rw [z6]; exact hA.2.2.2.2.2.2.2.2.2.2.2.2.2.2.2.2.2.2.2.2.2.1) (by show N.2.2.2.2.1 (b + 7) = _; rw [z6]; exact hB.2.2.2.2.2.2.2.2.2.2.2.2.2.2.2.2.2.2.2.2.2.1) (by decide)]
  replace c : Bc a b M 7 (sC N (a + 7) (va_cpy (gI N (b + 7)) (gI N (a + 7)) 0 0 240)) := c.next hd (by omega) (by decide)
  clear z6
  generalize sC N (a + 7) (va_cpy (gI N (b + 7)) (gI N (a + 7)) 0 0 240) = N at c ⊢
  have z7 : N.2.2 = M.2.2 := congrArg Prod.snd c.1
  rw [bc_step (a := a) (b := b) (j := 8) (n := 240) (by show N.2.2.2.1 a = 5; rw [z7]; exact hA.1) (by show N.2.2.2.1 b = 5; rw [z7]; exact hB.1) (by show N.2.2.1 a 8 = _; rw [z7]; exact hA.2.2.2.2.2.2.2.2.2.2.2.2.2.2.2.2.2.2.2.2.2.2.1) (by show N.2.2.1 b 8 = _; rw [z7]; exact hB.2.2.2.2.2.2.2.2.2.2.2.2.2.2.2.2.2.2.2.2.2.2.1) (by show N.2.2.2.1 (a + 8) = _; rw [z7]; exact hA.2.2.2.2.2.2.2.2.2.2.2.2.2.2.2.2.2.2.2.2.2.2.2.1) (by show N.2.2.2.1 (b + 8) = _; rw [z7]; exact hB.2.2.2.2.2.2.2.2.2.2.2.2.2.2.2.2.2.2.2.2.2.2.2.1) (by show N.2.2.2.2.1 (a + 8) = _; rw [z7]; exact hA.2.2.2.2.2.2.2.2.2.2.2.2.2.2.2.2.2.2.2.2.2.2.2.2.1) (by show N.2.2.2.2.1 (b + 8) = _; rw [z7]; exact hB.2.2.2.2.2.2.2.2.2.2.2.2.2.2.2.2.2.2.2.2.2.2.2.2.1) (by decide)]
  replace c : Bc a b M 8 (sC N (a + 8) (va_cpy (gI N (b + 8)) (gI N (a + 8)) 0 0 240)) := c.next hd (by omega) (by decide)
  clear z7
  generalize sC N (a + 8) (va_cpy (gI N (b + 8)) (gI N (a + 8)) 0 0 240) = N at c ⊢
  have z8 : N.2.2 = M.2.2 := congrArg Prod.snd c.1
  rw [bc_step (a := a) (b := b) (j := 9) (n := 240) (by show N.2.2.2.1 a = 5; rw [z8]; exact hA.1) (by show N.2.2.2.1 b = 5; rw [z8]; exact hB.1) (by show N.2.2.1 a 9 = _; rw [z8]; exact hA.2.2.2.2.2.2.2.2.2.2.2.2.2.2.2.2.2.2.2.2.2.2.2.2.2.1) (by show N.2.2.1 b 9 = _; rw [z8]; exact hB.2.2.2.2.2.2.2.2.2.2.2.2.2.2.2.2.2.2.2.2.2.2.2.2.2.1) (by show N.2.2.2.1 (a + 9) = _; rw [z8]; exact hA.2.2.2.2.2.2.2.2.2.2.2.2.2.2.2.2.2.2.2.2.2.2.2.2.2.2.1) (by show N.2.2.2.1 (b + 9) = _; rw [z8]; exact hB.2.2.2.2.2.2.2.2.2.2.2.2.2.2.2.2.2.2.2.2.2.2.2.2.2.2.1) (by show N.2.2.2.2.1 (a + 9) = _; rw [z8]; exact hA.2.2.2.2.2.2.2.2.2.2.2.2.2.2.2.2.2.2.2.2.2.2.2.2.2.2.2) (by show N.2.2.2.2.1 (b + 9) = _; rw [z8]; exact hB.2.2.2.2.2.2.2.2.2.2.2.2.2.2.2.2.2.2.2.2.2.2.2.2.2.2.2) (by decide)]
  replace c : Bc a b M 9 (sC N (a + 9) (va_cpy (gI N (b + 9)) (gI N (a + 9)) 0 0 240)) := c.next hd (by omega) (by decide)
  clear z8
  exact ⟨_, rfl, c⟩
theorem CS.copy {I J : Im} {T S : Nat → Nat} (hW : TW T) (h : CS I b T S) (h0 : J a 0 = I b 0) (hj : ∀ j, 1 ≤ j → j ≤ 9 → ∀ k, k < stN j → J (a + j) k = I (b + j) k) : CS J a T S := by
  obtain ⟨h1, h2, h3, h4, h5⟩ := h
  have w0 := hW.1
  have w1 := hW.2.1
  have n1 : stN 1 = 6 := rfl
  have n2 : stN 2 = 4 := rfl
  have n3 : stN 3 = 4 := rfl
  have n4 : stN 4 = 84 := rfl
  have n5 : stN 5 = 84 := rfl
  have n6 : stN 6 = 240 := rfl
  have n7 : stN 7 = 240 := rfl
  have n8 : stN 8 = 240 := rfl
  have n9 : stN 9 = 240 := rfl
  refine ⟨by rw [h0]; exact h1, fun h hh => ?_, fun l hl => ?_, fun l hl y y1 y2 => ?_, fun l hl k hk => ?_⟩
  · rw [hj 1 (by omega) (by omega) h (by omega)]; exact h2 h hh
  · rw [hj 2 (by omega) (by omega) l (by omega), hj 3 (by omega) (by omega) l (by omega)]; exact h3 l hl
  · have w := (hW.2.2 l hl).2.2.2.2.2.2.1
    rw [hj 4 (by omega) (by omega) _ (by omega), hj 5 (by omega) (by omega) _ (by omega)]; exact h4 l hl y y1 y2
  · have w := (hW.2.2 l hl).2.1
    rw [hj 6 (by omega) (by omega) _ (by omega), hj 7 (by omega) (by omega) _ (by omega), hj 8 (by omega) (by omega) _ (by omega), hj 9 (by omega) (by omega) _ (by omega)]; exact h5 l hl k hk
end BECOME
