/-! feed -/
def by8 (x s : Int32) : Nat := (x >>> (s &&& 31)).toBitVec.toNat % 2 ^ 8
theorem by8_lt (x s : Int32) : by8 x s < 256 := Nat.mod_lt _ (by decide)
theorem by8_and (x s : Int32) : (x >>> (s &&& 31)) &&& 255 = nI (by8 x s) := pk_and _ 8 (by decide)
def CTp (B : Nat) (M : Mm) (fed : Nat) (tp : Nat → Nat) : Prop := M.1 (B + 28) 1 = nI fed ∧ ∀ k, k < fed → M.1 (B + 29) k = nI (tp k)
def RTp (B : Nat) (M : Mm) (fed : Nat) (tp : Nat → Nat) : Prop := M.1 (B + 59) 2 = nI fed ∧ ∀ k, k < fed → M.1 (B + 60) k &&& 255 = nI (tp k)
def KF (B : Nat) (M N : Mm) : Prop := N.2 = M.2 ∧ ∀ a, a ≠ B + 28 → a ≠ B + 29 → N.1 a = M.1 a
def KG (B : Nat) (M N : Mm) : Prop := N.2 = M.2 ∧ (∀ a, a ≠ B + 59 → a ≠ B + 60 → N.1 a = M.1 a) ∧ ∀ j, j ≠ 2 → N.1 (B + 59) j = M.1 (B + 59) j
section FEED
variable {B t c fed : Nat} {T S tp : Nat → Nat} {M N P : Mm} {v v2 v3 v4 v5 : Int32}
theorem KF.tr (h : KF B M N) (g : KF B N P) : KF B M P := ⟨g.1.trans h.1, fun a h1 h2 => (g.2 a h1 h2).trans (h.2 a h1 h2)⟩
theorem KG.tr (h : KG B M N) (g : KG B N P) : KG B M P := ⟨g.1.trans h.1, fun a h1 h2 => (g.2.1 a h1 h2).trans (h.2.1 a h1 h2), fun j hj => (g.2.2 j hj).trans (h.2.2 j hj)⟩
theorem ff_step {n : Nat} {x2 w : Int32} {j : Nat} (hC : CmD B M.2.2) (h : CTp B M fed tp) (hf : fed < 700) (hx : ¬ x2 < 0) (hw : (v.toUInt32 >>> (x2.toUInt32 &&& Int32.toUInt32 31)).toInt32 &&& 255 = nI j) (hx8 : x2 + (-8) = w) : ∃ N, f_X3_feedFour_3 (n + 1) (B + 28) v x2 M = f_X3_feedFour_3 n (B + 28) v w N ∧ CTp B N (fed + 1) (upS tp fed j) ∧ KF B M N := by
  have k3 : gK M (B + 28) = 3 := by show M.2.2.2.1 (B + 28) = 3; simp only [hC.a]
  have r0 : gR M (B + 28) 0 = some (B + 29) := by show M.2.2.1 (B + 28) 0 = _; simp only [hC.a]
  have e1 : gI M (B + 28) 1 = nI fed := h.1
  have c1 : ¬ (700 : Int32) ≤ nI fed := by
    show ¬ nI 700 ≤ nI fed
    rw [nI_leI (by omega) (by omega)]; omega
  have ki : gK M (B + 29) = 10 ∧ inb (nI fed) (gN M (B + 29)) := ⟨by show M.2.2.2.1 (B + 29) = _; simp only [hC.a], by rw [show gN M (B + 29) = 700 by show M.2.2.2.2.1 (B + 29) = _; simp only [hC.a]]; exact nI_in hf (by omega)⟩
  refine ⟨sI (sI M (B + 29) fed (nI j)) (B + 28) 1 (nI (fed + 1)), ?_, ⟨sI_hit, fun k hk => ?_⟩, ⟨rfl, fun a h1 h2 => by rw [sI_ne h1, sI_ne h2]⟩⟩
  · have k3b : gK (sI M (B + 29) fed (nI j)) (B + 28) = 3 := k3
    have e1b : gI (sI M (B + 29) fed (nI j)) (B + 28) 1 = nI fed := by
      show (sI M (B + 29) fed (nI j)).1 (B + 28) 1 = _
      rw [sI_ne (by omega)]; exact e1
    rw [f_X3_feedFour_3, if_neg hx, ck_t k3, e1, if_neg c1, ck_t k3, r0, bR_s, ck_t k3, ck_t ki, nm_s, nI_clamp (by omega), hw, ck_t k3b, ck_t k3b, nm_s, e1b, hx8, show nI fed + 1 = nI (fed + 1) from nI_1 fed]
  · rw [sI_ne (by omega)]
    by_cases e : k = fed
    · subst e; rw [sI_hit, upS_eq]
    · rw [sI_oth e, upS_ne e]; exact h.2 k (by omega)
theorem fp_step {n : Nat} {x2 w : Int32} (hD : RfD B M.2.2) (h : RTp B M fed tp) (hf : fed < 700) (hx : ¬ x2 < 0) (hx8 : x2 + (-8) = w) : ∃ N, f_X8_puts_3 (n + 1) (B + 59) v x2 M = f_X8_puts_3 n (B + 59) v w N ∧ RTp B N (fed + 1) (upS tp fed (by8 v x2)) ∧ KG B M N := by
  have k8 : gK M (B + 59) = 8 := hD.a.1
  have r1 : gR M (B + 59) 1 = some (B + 60) := by show M.2.2.1 (B + 59) 1 = _; simp only [hD.a]
  have e1 : gI M (B + 59) 2 = nI fed := h.1
  have ki : gK M (B + 60) = 9 ∧ inb (nI fed) (gN M (B + 60)) := ⟨by show M.2.2.2.1 (B + 60) = _; simp only [hD.a], by rw [show gN M (B + 60) = 700 by show M.2.2.2.2.1 (B + 60) = _; simp only [hD.a]]; exact nI_in hf (by omega)⟩
  refine ⟨sI (sI M (B + 60) fed (v >>> (x2 &&& 31)).toInt8.toInt32) (B + 59) 2 (nI (fed + 1)), ?_, ⟨sI_hit, fun k hk => ?_⟩, ⟨rfl, fun a h1 h2 => by rw [sI_ne h1, sI_ne h2], fun j hj => by rw [sI_oth hj, sI_ne (by omega)]⟩⟩
  · have k8b : gK (sI M (B + 60) fed (v >>> (x2 &&& 31)).toInt8.toInt32) (B + 59) = 8 := k8
    have e1b : gI (sI M (B + 60) fed (v >>> (x2 &&& 31)).toInt8.toInt32) (B + 59) 2 = nI fed := by
      show (sI M (B + 60) fed (v >>> (x2 &&& 31)).toInt8.toInt32).1 (B + 59) 2 = _
      rw [sI_ne (by omega)]; exact e1
    rw [f_X8_puts_3, if_neg hx, ck_t k8, r1, bR_s, ck_t k8, e1, ck_t ki, nm_s, nI_clamp (by omega), pk_vb, ck_t k8b, ck_t k8b, nm_s, e1b, hx8, show nI fed + 1 = nI (fed + 1) from nI_1 fed]
  · rw [sI_ne (by omega)]
    by_cases e : k = fed
    · subst e; rw [sI_hit, upS_eq, b_lo, by8_and]
    · rw [sI_oth e, upS_ne e]; exact h.2 k (by omega)
def tp4 (tp : Nat → Nat) (fed : Nat) (v : Int32) : Nat → Nat := upS (upS (upS (upS tp fed (by8 v 24)) (fed + 1) (by8 v 16)) (fed + 2) (by8 v 8)) (fed + 3) (by8 v 0)
theorem p_four (hC : CmD B M.2.2) (h : CTp B M fed tp) (hf : fed + 4 ≤ 700) : ∃ N, f_X3_feedFour (B + 28) v M = some ((), N) ∧ CTp B N (fed + 4) (tp4 tp fed v) ∧ KF B M N := by
  have hF : FU = 199995 + 1 + 1 + 1 + 1 + 1 := rfl
  obtain ⟨N1, e1, c1, k1⟩ := ff_step (n := 199995 + 1 + 1 + 1 + 1) (v := v) (x2 := 24) (w := 16) hC h (by omega) (by decide) (by rw [b_sh24, by8_and]) (by decide)
  obtain ⟨N2, e2, c2, k2⟩ := ff_step (n := 199995 + 1 + 1 + 1) (v := v) (x2 := 16) (w := 8) (M := N1) (by rw [k1.1]; exact hC) c1 (by omega) (by decide) (by rw [b_sh16, by8_and]) (by decide)
  obtain ⟨N3, e3, c3, k3⟩ := ff_step (n := 199995 + 1 + 1) (v := v) (x2 := 8) (w := 0) (M := N2) (by rw [k2.1, k1.1]; exact hC) c2 (by omega) (by decide) (by rw [b_sh8, by8_and]) (by decide)
  obtain ⟨N4, e4, c4, k4⟩ := ff_step (n := 199995 + 1) (v := v) (x2 := 0) (w := -8) (M := N3) (by rw [k3.1, k2.1, k1.1]; exact hC) c3 (by omega) (by decide) (by rw [b_sh0, by8_and]) (by decide)
  refine ⟨N4, ?_, c4, ((k1.tr k2).tr k3).tr k4⟩
  rw [f_X3_feedFour, hF, e1, e2, e3, e4, f_X3_feedFour_3, if_pos (by decide)]
theorem q_four (hD : RfD B M.2.2) (h : RTp B M fed tp) (hf : fed + 4 ≤ 700) : ∃ N, f_X8_puts (B + 59) v M = some ((), N) ∧ RTp B N (fed + 4) (tp4 tp fed v) ∧ KG B M N := by
  have hF : FU = 199995 + 1 + 1 + 1 + 1 + 1 := rfl
  obtain ⟨N1, e1, c1, k1⟩ := fp_step (n := 199995 + 1 + 1 + 1 + 1) (v := v) (x2 := 24) (w := 16) hD h (by omega) (by decide) (by decide)
  obtain ⟨N2, e2, c2, k2⟩ := fp_step (n := 199995 + 1 + 1 + 1) (v := v) (x2 := 16) (w := 8) (M := N1) (by rw [k1.1]; exact hD) c1 (by omega) (by decide) (by decide)
  obtain ⟨N3, e3, c3, k3⟩ := fp_step (n := 199995 + 1 + 1) (v := v) (x2 := 8) (w := 0) (M := N2) (by rw [k2.1, k1.1]; exact hD) c2 (by omega) (by decide) (by decide)
  obtain ⟨N4, e4, c4, k4⟩ := fp_step (n := 199995 + 1) (v := v) (x2 := 0) (w := -8) (M := N3) (by rw [k3.1, k2.1, k1.1]; exact hD) c3 (by omega) (by decide) (by decide)
  refine ⟨N4, ?_, c4, ((k1.tr k2).tr k3).tr k4⟩
  rw [f_X8_puts, hF, e1, e2, e3, e4, f_X8_puts_3, if_pos (by decide)]
theorem tp4_lt (h : ∀ k, k < fed → tp k < 256) : ∀ k, k < fed + 4 → tp4 tp fed v k < 256 := fun k hk => by
  unfold tp4 upS
  split
  · exact by8_lt _ _
  · split
    · exact by8_lt _ _
    · split
      · exact by8_lt _ _
      · split
        · exact by8_lt _ _
        · exact h k (by omega)
theorem pr_feed (hcc : c + 1 ≤ 600) : Pr B c (f_X7_feed B v v2 v3 v4 v5) (f_X8_feed (B + 59) v v2 v3 v4 v5) := by
  intro M ⟨t, T, S, fed, tp, nd, D, im, G, hQ, hR, hX, hY, hA, hbl⟩
  have hR2 := hR.th (j := 0) (v := nI 0)
  have hC : CmD B M.2.2 := hQ.1
  have f7 := hA.1
  have x1 := hX.2.2.2.1
  have y1 := hY.1
  have y1b : (sI M (B + 59) 0 (nI 0)).1 (B + 59) 2 = nI fed := by rw [sI_oth (by omega)]; exact y1
  by_cases hf : fed + 20 ≤ 700
  · have cT : CTp B M fed tp := ⟨x1, hX.2.2.2.2.1⟩
    obtain ⟨N1, e1, c1, k1⟩ := p_four (v := v) hC cT (by omega)
    obtain ⟨N2, e2, c2, k2⟩ := p_four (v := v2) (M := N1) (by rw [k1.1]; exact hC) c1 (by omega)
    obtain ⟨N3, e3, c3, k3⟩ := p_four (v := v3) (M := N2) (by rw [k2.1, k1.1]; exact hC) c2 (by omega)
    obtain ⟨N4, e4, c4, k4⟩ := p_four (v := v4) (M := N3) (by rw [k3.1, k2.1, k1.1]; exact hC) c3 (by omega)
    obtain ⟨N5, e5, c5, k5⟩ := p_four (v := v5) (M := N4) (by rw [k4.1, k3.1, k2.1, k1.1]; exact hC) c4 (by omega)
    have kk := (((k1.tr k2).tr k3).tr k4).tr k5
    have s1 : N1.2.2 = M.2.2 := by rw [k1.1]
    have s2 : N2.2.2 = M.2.2 := by rw [k2.1, k1.1]
    have s3 : N3.2.2 = M.2.2 := by rw [k3.1, k2.1, k1.1]
    have s4 : N4.2.2 = M.2.2 := by rw [k4.1, k3.1, k2.1, k1.1]
    have s5 : N5.2.2 = M.2.2 := by rw [kk.1]
    have ef : f_X7_feed B v v2 v3 v4 v5 M = some (nI (fed + 4 + 4 + 4 + 4 + 4), N5) := by
      have c51 := c5.1
      simp (disch := omega) only [f_X7_feed, reduceIte, ↓reduceIte, ↓ck_i, ↓nm_s, ↓bR_i, ↓bd_i, Option.isSome_some, Option.getD_some, gK, gR, gN, gIs, inb_nI, and_self, nI_clamp, fa_lit, pk_mul, nI_add, n10, n1z, n00, eq_self, not_true_eq_false, not_false_eq_true, hC.a, x1, nI_leI, hf, e1, e2, e3, e4, e5, s1, s2, s3, s4, s5, c51]
    have r59 : ∀ a, B + 59 ≤ a → N5.1 a = M.1 a := fun a ha => kk.2 a (by omega) (by omega)
    have hRN : RQ B N5 T S c := hR.keep s5 (r59 _ (by omega)) (r59 _ (by omega))
    have hRN2 := hRN.th (j := 0) (v := nI 0)
    have hD : RfD B (sI N5 (B + 59) 0 (nI 0)).2.2 := hRN2.1
    have rT : RTp B (sI N5 (B + 59) 0 (nI 0)) fed tp := ⟨by rw [sI_oth (by omega), r59 _ (by omega)]; exact y1, by rw [sI_ne (by omega), r59 _ (by omega)]; exact hY.2.1⟩
    obtain ⟨P1, q1, d1, g1⟩ := q_four (v := v) hD rT (by omega)
    obtain ⟨P2, q2, d2, g2⟩ := q_four (v := v2) (M := P1) (by rw [g1.1]; exact hD) d1 (by omega)
    obtain ⟨P3, q3, d3, g3⟩ := q_four (v := v3) (M := P2) (by rw [g2.1, g1.1]; exact hD) d2 (by omega)
    obtain ⟨P4, q4, d4, g4⟩ := q_four (v := v4) (M := P3) (by rw [g3.1, g2.1, g1.1]; exact hD) d3 (by omega)
    obtain ⟨P5, q5, d5, g5⟩ := q_four (v := v5) (M := P4) (by rw [g4.1, g3.1, g2.1, g1.1]; exact hD) d4 (by omega)
    have gg := (((g1.tr g2).tr g3).tr g4).tr g5
    have z1 : P1.2.2 = N5.2.2 := by rw [g1.1]; rfl
    have z2 : P2.2.2 = N5.2.2 := by rw [g2.1, g1.1]; rfl
    have z3 : P3.2.2 = N5.2.2 := by rw [g3.1, g2.1, g1.1]; rfl
    have z4 : P4.2.2 = N5.2.2 := by rw [g4.1, g3.1, g2.1, g1.1]; rfl
    have z5 : P5.2.2 = N5.2.2 := by rw [gg.1]; rfl
    have em : f_X8_feed (B + 59) v v2 v3 v4 v5 N5 = some (nI (fed + 4 + 4 + 4 + 4 + 4), P5) := by
      have c51 := d5.1
      have rt1 := rT.1
      simp (disch := omega) only [f_X8_feed, reduceIte, ↓reduceIte, ↓ck_i, ↓nm_s, ↓bR_i, ↓bd_i, Option.isSome_some, Option.getD_some, gK, gR, gN, gIs, inb_nI, and_self, nI_clamp, fa_lit, pk_mul, nI_add, n10, n1z, n00, eq_self, not_true_eq_false, not_false_eq_true, hRN.1, hRN2.1, rt1, nI_leI, hf, q1, q2, q3, q4, q5, z1, z2, z3, z4, z5, c51]
    have o6 : ∀ a, a ≠ B + 59 → a ≠ B + 60 → P5.1 a = N5.1 a := fun a h1 h2 => by rw [gg.2.1 a h1 h2, sI_ne h1]
    have o7 : ∀ a, a ≠ B + 28 → a ≠ B + 29 → a ≠ B + 59 → a ≠ B + 60 → P5.1 a = M.1 a := fun a h1 h2 h3 h4 => by rw [o6 a h3 h4, kk.2 a h1 h2]
    have hs5 : P5.2.2 = M.2.2 := by rw [z5, s5]
    have ht : t = B + 1 ∨ t = B + 30 := by obtain ⟨d, hd, -⟩ := hX.1; omega
    refine ⟨_, _, ef, hRN.1.1, _, _, em, rfl, ⟨t, T, S, fed + 4 + 4 + 4 + 4 + 4, tp4 (tp4 (tp4 (tp4 (tp4 tp fed v) (fed + 4) v2) (fed + 4 + 4) v3) (fed + 4 + 4 + 4) v4) (fed + 4 + 4 + 4 + 4) v5, nd, D, im, G, ?_, ?_, ?_, ?_, ?_, ?_⟩⟩
    · obtain ⟨h1, h2, h3, h4, h5, h6, h7, h8, h9⟩ := hQ
      exact ⟨by rw [hs5]; exact h1, by rw [hs5]; exact h2, by rw [hs5]; exact h3, by rw [hs5]; exact h4, h5, h6.of (fun b b1 b2 => o7 b (by omega) (by omega) (by omega) (by omega)), h7.of (fun b b1 b2 => o7 b (by omega) (by omega) (by omega) (by omega)), h8.mono (by omega), hcc⟩
    · obtain ⟨h1, h2, h3, h4, h5, h6⟩ := hR
      exact ⟨by rw [hs5]; exact h1, by rw [o7 _ (by omega) (by omega) (by omega) (by omega)]; exact h2, by rw [o7 _ (by omega) (by omega) (by omega) (by omega)]; exact h3, h4, h5.mono (by omega), hcc⟩
    · obtain ⟨a1, a2, a3, a4, a5, a6, a7, a8, a9, a10⟩ := hX
      unfold CX
      rw [hs5, o7 B (by omega) (by omega) (by omega) (by omega), o7 (B + 27) (by omega) (by omega) (by omega) (by omega), o6 (B + 28) (by omega) (by omega), o6 (B + 29) (by omega) (by omega)]
      refine ⟨a1, a2, a3, c5.1, c5.2, a6, fun k hk => ?_, a8, fun k hk hq => ?_, a10⟩
      · obtain ⟨a, q1, q2⟩ := a7 k hk
        have n12 := hA.2.2.1
        have q3 := (a10.2.1 k (by omega) a (by unfold ent; rw [if_pos (by omega)]; exact q1)).2
        exact ⟨a, q1, q2.of (fun b b1 b2 => o7 b (by omega) (by omega) (by omega) (by omega))⟩
      · obtain ⟨a, q1, q2⟩ := a9 k hk hq
        have q3 := (a10.2.1 (k + 12) (by omega) a (by unfold ent; rw [if_neg (by omega), Nat.add_sub_cancel]; exact q1)).2
        exact ⟨a, q1, q2.of (fun b b1 b2 => o7 b (by omega) (by omega) (by omega) (by omega))⟩
    · obtain ⟨b1, b2, b3, b4, b5, b6⟩ := hY
      exact ⟨d5.1, d5.2, by rw [gg.2.2 23 (by omega), sI_oth (by omega), r59 _ (by omega)]; exact b3, by rw [o7 _ (by omega) (by omega) (by omega) (by omega)]; exact b4, by rw [o7 _ (by omega) (by omega) (by omega) (by omega)]; exact b5, by rw [o7 _ (by omega) (by omega) (by omega) (by omega)]; exact b6⟩
    · obtain ⟨g1, g2, g3, g4, g5⟩ := hA.mono (Nat.le_succ c)
      exact ⟨by omega, tp4_lt (tp4_lt (tp4_lt (tp4_lt (tp4_lt g2)))), g3, g4, g5⟩
    · rw [gg.1, sI_r, kk.1]; exact hbl
  · refine ⟨-nI 1, M, by simp (disch := omega) only [f_X7_feed, reduceIte, ↓reduceIte, ↓ck_i, ↓nm_s, ↓bR_i, ↓bd_i, Option.isSome_some, Option.getD_some, gK, gR, gN, gIs, inb_nI, and_self, nI_clamp, fa_lit, pk_mul, nI_add, n10, n1z, n00, eq_self, not_true_eq_false, not_false_eq_true, hC.a, x1, nI_leI, hf], hR.1.1, -nI 1, sI M (B + 59) 0 (nI 0), by simp (disch := omega) only [f_X8_feed, reduceIte, ↓reduceIte, ↓ck_i, ↓nm_s, ↓bR_i, ↓bd_i, Option.isSome_some, Option.getD_some, gK, gR, gN, gIs, inb_nI, and_self, nI_clamp, fa_lit, pk_mul, nI_add, n10, n1z, n00, eq_self, not_true_eq_false, not_false_eq_true, hR.1, hR2.1, y1b, nI_leI, hf], rfl, inv_q ⟨hQ, hR, hX, hY, hA⟩ hcc KC.rf (KR.th (by omega) (by omega)) hbl⟩
end FEED
