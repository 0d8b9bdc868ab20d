theorem TmA_of {t : Nat} {N : Mm} (h : BF t 6 sl6 kd6 ln6 13 N) : TmA t N.2.2 := by
  exact ⟨h.1, (h.2 0 (by omega)).2.2, (h.2 0 (by omega)).1, (h.2 0 (by omega)).2.1, (h.2 1 (by omega)).2.2, (h.2 1 (by omega)).1, (h.2 1 (by omega)).2.1, (h.2 2 (by omega)).2.2, (h.2 2 (by omega)).1, (h.2 2 (by omega)).2.1, (h.2 3 (by omega)).2.2, (h.2 3 (by omega)).1, (h.2 3 (by omega)).2.1, (h.2 4 (by omega)).2.2, (h.2 4 (by omega)).1, (h.2 4 (by omega)).2.1, (h.2 5 (by omega)).2.2, (h.2 5 (by omega)).1, (h.2 5 (by omega)).2.1, (h.2 6 (by omega)).2.2, (h.2 6 (by omega)).1, (h.2 6 (by omega)).2.1, (h.2 7 (by omega)).2.2, (h.2 7 (by omega)).1, (h.2 7 (by omega)).2.1, (h.2 8 (by omega)).2.2, (h.2 8 (by omega)).1, (h.2 8 (by omega)).2.1, (h.2 9 (by omega)).2.2, (h.2 9 (by omega)).1, (h.2 9 (by omega)).2.1, (h.2 10 (by omega)).2.2, (h.2 10 (by omega)).1, (h.2 10 (by omega)).2.1, (h.2 11 (by omega)).2.2, (h.2 11 (by omega)).1, (h.2 11 (by omega)).2.1, (h.2 12 (by omega)).2.2, (h.2 12 (by omega)).1, (h.2 12 (by omega)).2.1⟩
theorem StA_of {a : Nat} {N : Mm} (h : BF a 5 sl5 kd5 ln5 9 N) : StA a N.2.2 := by
  exact ⟨h.1, (h.2 0 (by omega)).2.2, (h.2 0 (by omega)).1, (h.2 0 (by omega)).2.1, (h.2 1 (by omega)).2.2, (h.2 1 (by omega)).1, (h.2 1 (by omega)).2.1, (h.2 2 (by omega)).2.2, (h.2 2 (by omega)).1, (h.2 2 (by omega)).2.1, (h.2 3 (by omega)).2.2, (h.2 3 (by omega)).1, (h.2 3 (by omega)).2.1, (h.2 4 (by omega)).2.2, (h.2 4 (by omega)).1, (h.2 4 (by omega)).2.1, (h.2 5 (by omega)).2.2, (h.2 5 (by omega)).1, (h.2 5 (by omega)).2.1, (h.2 6 (by omega)).2.2, (h.2 6 (by omega)).1, (h.2 6 (by omega)).2.1, (h.2 7 (by omega)).2.2, (h.2 7 (by omega)).1, (h.2 7 (by omega)).2.1, (h.2 8 (by omega)).2.2, (h.2 8 (by omega)).1, (h.2 8 (by omega)).2.1⟩
theorem i_X8b {a : Nat} {M0 : Mm} (hT : gT M0 = a + 1) (hK : gK M0 a = 8) : ∃ N, f_X8_init a M0 = some ((), N) ∧ Cc a 8 sl8 kd8 ln8 M0 10 N ∧ N.2.1 a 28 = 1 := by
  have c := Cc.zero (k := 8) (sl := sl8) (kd := kd8) (ln := ln8) hT hK
  unfold f_X8_init
  rw [nw_run (by have := c.1; omega) c.2.1]
  replace c : Cc a 8 sl8 kd8 ln8 M0 1 (nw _ a 1 9 700) := c.new (show ∀ x, x < 0 → sl8 x ≠ sl8 0 by decide)
  rw [nw_run (by have := c.1; omega) c.2.1]
  replace c : Cc a 8 sl8 kd8 ln8 M0 2 (nw _ a 11 10 80) := c.new (show ∀ x, x < 1 → sl8 x ≠ sl8 1 by decide)
  rw [nw_run (by have := c.1; omega) c.2.1]
  replace c : Cc a 8 sl8 kd8 ln8 M0 3 (nw _ a 12 10 80) := c.new (show ∀ x, x < 2 → sl8 x ≠ sl8 2 by decide)
  rw [nw_run (by have := c.1; omega) c.2.1]
  replace c : Cc a 8 sl8 kd8 ln8 M0 4 (nw _ a 17 10 1407) := c.new (show ∀ x, x < 3 → sl8 x ≠ sl8 3 by decide)
  rw [nw_run (by have := c.1; omega) c.2.1]
  replace c : Cc a 8 sl8 kd8 ln8 M0 5 (nw _ a 18 10 1407) := c.new (show ∀ x, x < 4 → sl8 x ≠ sl8 4 by decide)
  rw [nw_run (by have := c.1; omega) c.2.1]
  replace c : Cc a 8 sl8 kd8 ln8 M0 6 (nw _ a 24 10 16884) := c.new (show ∀ x, x < 5 → sl8 x ≠ sl8 5 by decide)
  rw [nw_run (by have := c.1; omega) c.2.1]
  replace c : Cc a 8 sl8 kd8 ln8 M0 7 (nw _ a 25 11 2) := c.new (show ∀ x, x < 6 → sl8 x ≠ sl8 6 by decide)
  rw [nw_run (by have := c.1; omega) c.2.1]
  replace c : Cc a 8 sl8 kd8 ln8 M0 8 (nw _ a 26 10 2814) := c.new (show ∀ x, x < 7 → sl8 x ≠ sl8 7 by decide)
  rw [nw_run (by have := c.1; omega) c.2.1]
  replace c : Cc a 8 sl8 kd8 ln8 M0 9 (nw _ a 27 10 126) := c.new (show ∀ x, x < 8 → sl8 x ≠ sl8 8 by decide)
  rw [ck_t c.2.1, nm_s]
  replace c := c.long 28 1
  have c9 := c.1
  rw [nw_run (by have := c.1; omega) c.2.1]
  replace c : Cc a 8 sl8 kd8 ln8 M0 10 (nw _ a 31 11 61) := c.new (show ∀ x, x < 9 → sl8 x ≠ sl8 9 by decide)
  refine ⟨_, rfl, c, ?_⟩
  show (if a = gT _ then (0 : Int64) else if a = a ∧ 28 = 28 then 1 else _) = 1
  rw [if_neg (by omega), if_pos ⟨rfl, rfl⟩]

theorem init_ok : InitOk := by
  intro B L xs
  have t0 : gT (sN (m0 B) 7 12) = B + 1 := rfl
  have k0 : gK (sN (m0 B) 7 12) B = 7 := by
    show (if B = B then 7 else _) = 7
    rw [if_pos rfl]
  have z0 : Zr (sN (m0 B) 7 12) := fun b i => by
    show (if b = B then (0 : Int32) else 0) = 0
    split <;> rfl
  obtain ⟨N, e7, hgT, hK, hZ, hL, b1, b15, b28, b44, b53, b55, b56, a25, a26, a27, r0, r1, r2, r4, r5, r7, r8, r9, r10, r11⟩ := i_X7 t0 k0
  have t1 : gT (sN N 8 34) = B + 59 + 1 := by rw [gT_sN, hgT]
  have k1 : gK (sN N 8 34) (B + 59) = 8 := by rw [gK_sN, if_pos hgT.symm]
  obtain ⟨P, e8, c8, below1⟩ := i_X8b t1 k1
  obtain ⟨c1, c2, c3, c4, c5⟩ := c8
  have tP : gT P = B + 70 := by omega
  have oldP : ∀ b, b < B + 70 → (sN P 13 1).2.1 b = P.2.1 b ∧ (sN P 13 1).2.2.1 b = P.2.2.1 b ∧ (sN P 13 1).2.2.2.1 b = P.2.2.2.1 b ∧ (sN P 13 1).2.2.2.2.1 b = P.2.2.2.2.1 b := fun b hb => (sN_old (by omega)).2
  have oldN : ∀ b, b < B + 59 → (sN P 13 1).2.1 b = N.2.1 b ∧ (sN P 13 1).2.2.1 b = N.2.2.1 b ∧ (sN P 13 1).2.2.2.1 b = N.2.2.2.1 b ∧ (sN P 13 1).2.2.2.2.1 b = N.2.2.2.2.1 b := fun b hb => by
    have q1 := oldP b (by omega)
    have q2 := c4 b hb
    have q3 := (sN_old (M := N) (kd := 8) (n := 34) (b := b) (by omega)).2
    exact ⟨q1.1.trans (q2.1.trans q3.1), q1.2.1.trans (q2.2.1.trans q3.2.1), q1.2.2.1.trans (q2.2.2.1.trans q3.2.2.1), q1.2.2.2.trans (q2.2.2.2.trans q3.2.2.2)⟩
  have zN := hZ z0
  have zP : Zr P := c5 (fun b i => by
    show (if b = gT N then (0 : Int32) else N.1 b i) = 0
    split
    · rfl
    · exact zN b i)
  have zM : Zr (sN P 13 1) := fun b i => by
    show (if b = gT P then (0 : Int32) else P.1 b i) = 0
    split
    · rfl
    · exact zP b i
  have cmN : CmA B N.2.2 := ⟨hK, r1, r2, r4, r5, r7, r8, r9, r10, r11, a25.1, a25.2.1, a26.1, a26.2.1, a27.1, a27.2, b28.2.2.1, b28.2.2.2.1, (b53.2 0 (by omega)).1, (b53.2 0 (by omega)).2.1, (b56.2 0 (by omega)).1, (b56.2 0 (by omega)).2.1, (b56.2 1 (by omega)).1, (b56.2 1 (by omega)).2.1, (b44.2 0 (by omega)).1, (b44.2 0 (by omega)).2.1, (b44.2 1 (by omega)).1, (b44.2 1 (by omega)).2.1, (b44.2 2 (by omega)).1, (b44.2 2 (by omega)).2.1, (b44.2 3 (by omega)).1, (b44.2 3 (by omega)).2.1, (b44.2 4 (by omega)).1, (b44.2 4 (by omega)).2.1, (b44.2 5 (by omega)).1, (b44.2 5 (by omega)).2.1, (b44.2 6 (by omega)).1, (b44.2 6 (by omega)).2.1, (b44.2 7 (by omega)).1, (b44.2 7 (by omega)).2.1, b28.1, b28.2.1, b44.1, (b44.2 0 (by omega)).2.2, (b44.2 1 (by omega)).2.2, (b44.2 2 (by omega)).2.2, (b44.2 3 (by omega)).2.2, (b44.2 4 (by omega)).2.2, (b44.2 5 (by omega)).2.2, (b44.2 6 (by omega)).2.2, (b44.2 7 (by omega)).2.2, b53.1, (b53.2 0 (by omega)).2.2, b55.1, b56.1, (b56.2 0 (by omega)).2.2, (b56.2 1 (by omega)).2.2⟩
  have b59 : BF (B + 59) 8 sl8 kd8 ln8 10 (sN P 13 1) := by
    refine ⟨?_, fun x hx => ?_⟩
    · show (sN P 13 1).2.2.2.1 (B + 59) = 8
      rw [(oldP _ (by omega)).2.2.1]; exact c2
    · have q := c3 x hx
      refine ⟨?_, ?_, ?_⟩
      · show (sN P 13 1).2.2.2.1 (B + 59 + 1 + x) = _
        rw [(oldP _ (by omega)).2.2.1]; exact q.1
      · show (sN P 13 1).2.2.2.2.1 (B + 59 + 1 + x) = _
        rw [(oldP _ (by omega)).2.2.2]; exact q.2.1
      · show (sN P 13 1).2.2.1 (B + 59) (sl8 x) = _
        rw [(oldP _ (by omega)).2.1]; exact q.2.2
  have k70 : gK (sN P 13 1) (B + 70) = 13 := by rw [gK_sN, if_pos tP.symm]
  have n70 : gN (sN P 13 1) (B + 70) = 1 := by rw [gN_sN, if_pos tP.symm]
  have hCm : CmA B (sN P 13 1).2.2 := CmA.ext (fun b _ hb => ⟨fun _ _ i _ _ => by rw [(oldN b (by omega)).2.1], (oldN b (by omega)).2.2⟩) cmN
  have hRf : RfA B (sN P 13 1).2.2 := ⟨b59.1, (b59.2 0 (by omega)).2.2, (b59.2 0 (by omega)).1, (b59.2 0 (by omega)).2.1, (b59.2 1 (by omega)).2.2, (b59.2 1 (by omega)).1, (b59.2 1 (by omega)).2.1, (b59.2 2 (by omega)).2.2, (b59.2 2 (by omega)).1, (b59.2 2 (by omega)).2.1, (b59.2 3 (by omega)).2.2, (b59.2 3 (by omega)).1, (b59.2 3 (by omega)).2.1, (b59.2 4 (by omega)).2.2, (b59.2 4 (by omega)).1, (b59.2 4 (by omega)).2.1, (b59.2 5 (by omega)).2.2, (b59.2 5 (by omega)).1, (b59.2 5 (by omega)).2.1, (b59.2 6 (by omega)).2.2, (b59.2 6 (by omega)).1, (b59.2 6 (by omega)).2.1, (b59.2 7 (by omega)).2.2, (b59.2 7 (by omega)).1, (b59.2 7 (by omega)).2.1, (b59.2 8 (by omega)).2.2, (b59.2 8 (by omega)).1, (b59.2 8 (by omega)).2.1, (b59.2 9 (by omega)).2.2, (b59.2 9 (by omega)).1, (b59.2 9 (by omega)).2.1, k70, n70⟩
  have hT1 : TmA (B + 1) (sN P 13 1).2.2 := TmA.ext (fun b _ hb => (oldN b (by omega)).2) (TmA_of b1)
  have hT30 : TmA (B + 30) (sN P 13 1).2.2 := TmA.ext (fun b _ hb => (oldN b (by omega)).2) (TmA_of b28.2.2.2.2.2)
  have hSt : StA (B + 15) (sN P 13 1).2.2 := StA.ext (fun b _ hb => (oldN b (by omega)).2) (StA_of b15)
  have hTW : TW (fun _ => 0) := ⟨by decide, by decide, fun l hl => absurd hl (Nat.not_lt_zero l)⟩
  have hSW : SW (fun _ => 0) (fun _ => 0) 0 := ⟨by decide, fun l hl => absurd hl (Nat.not_lt_zero l), fun l hl => absurd hl (Nat.not_lt_zero l), fun l hl => absurd hl (Nat.not_lt_zero l), fun l hl => absurd hl (Nat.not_lt_zero l), fun l hl => absurd hl (Nat.not_lt_zero l), fun l hl => absurd hl (Nat.not_lt_zero l)⟩
  have hent : ∀ k, k < 14 → ∀ a, ent B (sN P 13 1).2.2 k = some a → False := by
    intro k hk a ha
    unfold ent at ha
    split at ha
    · rw [(oldN (B + 25) (by omega)).2.1] at ha
      have := a25.2.2 k
      unfold gR at this
      rw [this] at ha; cases ha
    · rw [(oldN (B + 26) (by omega)).2.1] at ha
      have := a26.2.2 (k - 12)
      unfold gR at this
      rw [this] at ha; cases ha
  refine ⟨sN P 13 1, ?_, B + 1, fun _ => 0, fun _ => 0, 0, fun _ => 0, 0, fun _ _ => 0, fun _ => 0, fun _ _ => 0, ⟨hCm, ?_, hT1, hSt, hTW, ?_, ?_, hSW, by omega⟩, ⟨hRf, fun k hk => zM _ _, fun k hk => zM _ _, hTW, hSW, by omega⟩, ⟨⟨B + 30, Or.inl ⟨rfl, rfl⟩, ?_⟩, hT1, hT30, zM _ _, fun k hk => absurd hk (Nat.not_lt_zero k), zM _ _, fun k hk => absurd hk (Nat.not_lt_zero k), fun k hk => zM _ _, fun k hk h => absurd h Nat.zero_ne_one, ?_, fun k hk a ha => (hent k hk a ha).elim, fun k j hk hj hn a b ha hb => (hent k hk a ha).elim⟩, ⟨zM _ _, fun k hk => absurd hk (Nat.not_lt_zero k), zM _ _, fun k hk => absurd hk (Nat.not_lt_zero k), fun k hk => zM _ _, fun k hk h => absurd h Nat.zero_ne_one⟩, ⟨by omega, fun k hk => absurd hk (Nat.not_lt_zero k), by omega, fun k hk => absurd hk (Nat.not_lt_zero k), fun k hk => ⟨Nat.zero_le 1, fun h => absurd h Nat.zero_ne_one⟩⟩, ?_⟩
  · unfold f_law
    rw [nm_s, nm_s]
    show bd (f_X7_init B (sN (m0 B) 7 12)) _ = _
    rw [e7, bd_s, nm_s, nm_s, hgT, e8, bd_s, nm_s, nm_s, tP]
    rfl
  · rw [(oldN B (by omega)).2.1]; exact r0
  · exact ⟨zM _ _, zM _ _, fun l hl => absurd hl (Nat.not_lt_zero l), fun l hl => absurd hl (Nat.not_lt_zero l)⟩
  · exact ⟨zM _ _, fun l hl => absurd hl (Nat.not_lt_zero l), fun l hl => absurd hl (Nat.not_lt_zero l), fun l hl => absurd hl (Nat.not_lt_zero l), fun l hl => absurd hl (Nat.not_lt_zero l)⟩
  · rw [(oldN (B + 28) (by omega)).2.1]; exact b28.2.2.2.2.1
  · show B + 71 ≤ gT P + 1
    omega
  · rw [(oldN B (by omega)).1, (oldP (B + 59) (by omega)).1, hL, below1]
