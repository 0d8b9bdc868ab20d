def gS (G : Nat → Nat → Nat) (k : Nat) (S : Nat → Nat) : Nat → Nat → Nat := fun j => if j = k then S else G j
theorem gS_eq {G : Nat → Nat → Nat} {k : Nat} {S : Nat → Nat} : gS G k S k = S := if_pos rfl
theorem gS_ne {G : Nat → Nat → Nat} {k j : Nat} {S : Nat → Nat} (h : j ≠ k) : gS G k S j = G j := if_neg h
section IMAGE
variable {B t c l fed nd : Nat} {T S tp im : Nat → Nat} {D G : Nat → Nat → Nat} {M N P : Mm} {x y : Int32}
theorem img_tail {a k : Nat} (h : Al B t M T S c fed tp nd D im G nd D) (hnd : nd ≤ 12) (hk : k < 2) (ra : M.2.2.1 (B + 26) k = some a) : ∃ N, f_X7_image_50 B (nI k) (nI 0) a M = some (nI 1, N) ∧ CQ B t N T S c ∧ RQ B N T S c ∧ CX B t N T fed tp nd D (upS im k 1) (gS G k S) ∧ RX B N fed tp nd D im G ∧ N.2 = M.2 := by
  obtain ⟨h1, h2, h3, h4⟩ := h
  obtain ⟨a1, a2, a3, a4, a5, a6, a7, a8, a9, a10⟩ := h3
  have ea : ent B M.2.2 (k + 12) = some a := by unfold ent; rw [if_neg (by omega), Nat.add_sub_cancel]; exact ra
  have hb := a10.2.1 (k + 12) (by omega) a ea
  have hb2 : B + 71 ≤ a := hb.2.1
  obtain ⟨N1, eN, b1, b2, b3, b4⟩ := p_become (a := a) (b := B + 15) hb.1 h1.2.2.2.1 (by omega)
  have ht : t = B + 1 ∨ t = B + 30 := by
    obtain ⟨d, hd, -⟩ := a1
    omega
  have hc1 : N1.2.2 = M.2.2 := congrArg Prod.snd b1
  have hI : ∀ b, b ≠ B + 27 → (b < a ∨ a + 10 ≤ b) → (sI N1 (B + 27) k (nI 1)).1 b = M.1 b := fun b h1 h2 => by rw [sI_ne h1]; exact b2 b h2
  refine ⟨sI N1 (B + 27) k (nI 1), ?_, ?_, ?_, ?_, ?_, b1⟩
  · have ka : M.2.2.2.1 a = 5 := hb.1.1
    simp (disch := omega) only [f_X7_image_50, reduceIte, ↓reduceIte, ↓ck_i, ↓nm_s, ↓bR_i, ↓bd_i, Option.isSome_some, Option.getD_some, gK, gR, gN, gIs, inb_nI, and_self, nI_clamp, fa_lit, pk_mul, nI_add, n10, n1z, n00, eq_self, not_true_eq_false, not_false_eq_true, h1.1, ka, eN, hc1, vb1]
  · obtain ⟨z1, z2, z3, z4, z5, z6, z7, z8⟩ := h1
    have hsh : (sI N1 (B + 27) k (nI 1)).2.2 = M.2.2 := hc1
    exact ⟨by rw [hsh]; exact z1, by rw [hsh]; exact z2, by rw [hsh]; exact z3, by rw [hsh]; exact z4, z5, z6.of (fun b q1 q2 => hI b (by omega) (by omega)), z7.of (fun b q1 q2 => hI b (by omega) (by omega)), z8⟩
  · exact h2.keep hc1 (hI _ (by omega) (by omega)) (hI _ (by omega) (by omega))
  · unfold CX
    rw [show (sI N1 (B + 27) k (nI 1)).2.2 = M.2.2 from hc1, hI (B + 28) (by omega) (by omega), hI (B + 29) (by omega) (by omega), hI B (by omega) (by omega)]
    refine ⟨a1, a2, a3, a4, a5, a6, fun i hi => ?_, fun i hi => ?_, fun i hi hq => ?_, a10⟩
    · obtain ⟨d, q1, q2⟩ := a7 i hi
      have ed : ent B M.2.2 i = some d := by unfold ent; rw [if_pos (by omega)]; exact q1
      have q3 := a10.2.1 i (by omega) d ed
      have q4 := a10.2.2 i (k + 12) (by omega) (by omega) (by omega) d a ed ea
      have q5 : B + 71 ≤ d := q3.2.1
      exact ⟨d, q1, q2.of (fun b p1 p2 => hI b (by omega) (by omega))⟩
    · by_cases e : i = k
      · subst e; rw [sI_hit, upS_eq]
      · rw [sI_oth e, upS_ne e, b2 (B + 27) (by omega)]; exact a8 i hi
    · by_cases e : i = k
      · subst e
        rw [gS_eq]
        refine ⟨a, ra, CS.copy h1.2.2.2.2.1 h1.2.2.2.2.2.2.1 ?_ (fun j j1 j2 q hq => ?_)⟩
        · rw [sI_ne (by omega)]; exact b3
        · rw [sI_ne (by omega)]; exact b4 j j1 j2 q hq
      · rw [gS_ne e]
        rw [upS_ne e] at hq
        obtain ⟨d, q1, q2⟩ := a9 i hi hq
        have ed : ent B M.2.2 (i + 12) = some d := by unfold ent; rw [if_neg (by omega), Nat.add_sub_cancel]; exact q1
        have q3 := a10.2.1 (i + 12) (by omega) d ed
        have q4 := a10.2.2 (i + 12) (k + 12) (by omega) (by omega) (by omega) d a ed ea
        have q5 : B + 71 ≤ d := q3.2.1
        exact ⟨d, q1, q2.of (fun b p1 p2 => hI b (by omega) (by omega))⟩
  · exact h4.keep (hI _ (by omega) (by omega)) (hI _ (by omega) (by omega)) (hI _ (by omega) (by omega)) (hI _ (by omega) (by omega)) (by rw [hI _ (by omega) (by omega)]) (by rw [hI _ (by omega) (by omega)])
theorem p_img {k : Nat} (h : Al B t M T S c fed tp nd D im G nd D) (hnd : nd ≤ 12) (hk : k < 2) : ∃ N, f_X7_image_24 B (nI k) (nI 0) M = some (nI 1, N) ∧ CQ B t N T S c ∧ RQ B N T S c ∧ CX B t N T fed tp nd D (upS im k 1) (gS G k S) ∧ RX B N fed tp nd D im G ∧ N.2.1 B = M.2.1 B ∧ N.2.1 (B + 59) = M.2.1 (B + 59) := by
  have hC := h.1.1
  have hTT : B + 71 ≤ gT M := h.2.2.1.2.2.2.2.2.2.2.2.2.1
  cases ra : M.2.2.1 (B + 26) k with
  | some a =>
    obtain ⟨N, eN, n1, n2, n3, n4, n5⟩ := img_tail h hnd hk ra
    refine ⟨N, ?_, n1, n2, n3, n4, by rw [n5], by rw [n5]⟩
    rw [← eN]
    simp (disch := omega) only [f_X7_image_24, reduceIte, ↓reduceIte, ↓ck_i, ↓nm_s, ↓bR_i, ↓bd_i, Option.isSome_some, Option.getD_some, gK, gR, gN, gIs, inb_nI, and_self, nI_clamp, fa_lit, pk_mul, nI_add, n10, n1z, n00, eq_self, not_true_eq_false, not_false_eq_true, hC, ra, Option.elim_some]
  | none =>
    obtain ⟨N0, e0, k5, old, n1, n2, n3⟩ := new_ent (X := B + 26) (j := k) (e := k + 12) h (by omega) (Or.inr ⟨rfl, rfl, hk⟩) ra
    obtain ⟨N, eN, m1, m2, m3, m4, m5⟩ := img_tail n1 hnd hk n2
    refine ⟨N, ?_, m1, m2, m3, m4, by rw [m5]; exact (old B (by omega)).2.1, by rw [m5]; exact (old (B + 59) (by omega)).2.1⟩
    rw [← eN]
    have o0 := old B (by omega)
    have o25 := old (B + 26) (by omega)
    have q1 : gK N0 B = 7 := by show N0.2.2.2.1 B = 7; rw [o0.2.2.2.1]; exact hC.1
    have q2 : gR N0 B 4 = some (B + 26) := by show N0.2.2.1 B 4 = _; rw [o0.2.2.1]; simp only [hC]
    have q3 : gK N0 (B + 26) = 12 := by show N0.2.2.2.1 _ = _; rw [o25.2.2.2.1]; simp only [hC]
    have q4 : gN N0 (B + 26) = 2 := by show N0.2.2.2.2.1 _ = _; rw [o25.2.2.2.2]; simp only [hC]
    have q6 : gK N0 (gT M) = 5 := k5
    unfold f_X7_image_24
    rw [ck_t (show gK M B = 7 from hC.1), show gR M B 4 = some (B + 26) by show M.2.2.1 B 4 = _; simp only [hC], bR_s, ck_t (show gK M (B + 26) = 12 ∧ inb (nI k) (gN M (B + 26)) from ⟨by show M.2.2.2.1 _ = _; simp only [hC], by rw [show gN M (B + 26) = 2 by show M.2.2.2.2.1 _ = _; simp only [hC]]; exact nI_in hk (by omega)⟩), nm_s, show gR M (B + 26) (nI k).toNatClampNeg = none by rw [nI_clamp (by omega)]; exact ra]
    rw [Option.elim_none, nm_s, nm_s, e0, bd_s, ck_t q1, q2, bR_s, ck_t (show gK N0 (B + 26) = 12 ∧ inb (nI k) (gN N0 (B + 26)) ∧ gK N0 (gT M) = 5 from ⟨q3, by rw [q4]; exact nI_in hk (by omega), q6⟩), nm_s, nI_clamp (by omega)]
theorem pr_image (hcc : c + 1 ≤ 600) (hy : y = 0 ∨ y = 1) : Pr B c (f_X7_image B x y) (f_X8_image (B + 59) x y) := by
  intro M ⟨t, T, S, fed, tp, nd, D, im, G, hQ, hR, hX, hY, hA, hbl⟩
  have hR2 := hR.th (j := 0) (v := nI 0)
  have ht0 := hX.1
  have n12 := hA.2.2.1
  rcases ixL x (n := 2) (by omega) with h | ⟨k, hk, rfl⟩
  · have iw := wi_n (M := sI M (B + 59) 0 (nI 0)) (n := 1) (by omega) h
    have e2 : f_X8_image (B + 59) x y M = some (nI 0, sI M (B + 59) 0 (nI 0)) := by simp (disch := omega) only [f_X8_image, reduceIte, ↓reduceIte, ↓ck_i, ↓nm_s, ↓bR_i, ↓bd_i, Option.isSome_some, Option.getD_some, gK, gR, gN, gIs, inb_nI, and_self, nI_clamp, fa_lit, pk_mul, nI_add, n10, n1z, n00, eq_self, not_true_eq_false, not_false_eq_true, hR.1, hR2.1, fa_litL, iw]
    rcases h with h | ⟨h1, h2⟩
    · exact ⟨nI 0, M, by simp (disch := omega) only [f_X7_image, reduceIte, ↓reduceIte, ↓ck_i, ↓nm_s, ↓bR_i, ↓bd_i, Option.isSome_some, Option.getD_some, gK, gR, gN, gIs, inb_nI, and_self, nI_clamp, fa_lit, pk_mul, nI_add, n10, n1z, n00, eq_self, not_true_eq_false, not_false_eq_true, h], hR.1.1, nI 0, _, e2, rfl, inv_q ⟨hQ, hR, hX, hY, hA⟩ hcc KC.rf (KR.th (by omega) (by omega)) hbl⟩
    · exact ⟨nI 0, M, by simp (disch := omega) only [f_X7_image, reduceIte, ↓reduceIte, ↓ck_i, ↓nm_s, ↓bR_i, ↓bd_i, Option.isSome_some, Option.getD_some, gK, gR, gN, gIs, inb_nI, and_self, nI_clamp, fa_lit, pk_mul, nI_add, n10, n1z, n00, eq_self, not_true_eq_false, not_false_eq_true, h1, h2], hR.1.1, nI 0, _, e2, rfl, inv_q ⟨hQ, hR, hX, hY, hA⟩ hcc KC.rf (KR.th (by omega) (by omega)) hbl⟩
  have b1 : ¬ k < 0 := by omega
  have b2 : ¬ 2 ≤ k := by omega
  have iw : ∀ M : Mm, f_X8_within (nI k).toInt64 (lN 0) (lN 1) M = some (nI 1, M) := fun M => wi_y (by omega) (by omega)
  have xk := hX.2.2.2.2.2.2.2.1 k hk
  have yk := hY.2.2.2.2.1 k hk
  have ak := hA.2.2.2.2 k hk
  rcases hy with rfl | rfl
  · obtain ⟨N, eN, n1, n2, n3, n4, l1, l2⟩ := p_img ⟨hQ, hR, hX, hY⟩ n12 hk
    have hRN := n2.th (j := 0) (v := nI 0)
    have hYN : RX B (sI N (B + 59) 0 (nI 0)) fed tp nd D im G := n4.keep (sI_ne (by omega)) (sI_ne (by omega)) (sI_ne (by omega)) (sI_ne (by omega)) (sI_oth (by omega)) (sI_oth (by omega))
    have cp := q_copies (s := B + 63) (d := B + 67) (o1 := 0) (o2 := 1407 * k) (M := sI N (B + 59) 0 (nI 0)) (ns := 1407) (nd := 2814) (by simp only [hRN.1]) (by simp only [hRN.1]) (by simp only [hRN.1]) (by simp only [hRN.1]) (by omega) (by omega) (by omega) (by omega) (by omega)
    have ho : ∀ b, b ≠ B + 67 → (cpM (sI N (B + 59) 0 (nI 0)) (B + 63) (B + 67) 0 (1407 * k) 1407).1 b = (sI N (B + 59) 0 (nI 0)).1 b := fun b hb => cpM_o hb
    have hin : ∀ j, j < 1407 → (cpM (sI N (B + 59) 0 (nI 0)) (B + 63) (B + 67) 0 (1407 * k) 1407).1 (B + 67) (1407 * k + j) = nI (S j) := fun j hj => by
      rw [cpM_in hj, Nat.zero_add]; exact hRN.2.2.1 j hj
    have hout : ∀ j, (j < 1407 * k ∨ 1407 * k + 1407 ≤ j) → (cpM (sI N (B + 59) 0 (nI 0)) (B + 63) (B + 67) 0 (1407 * k) 1407).1 (B + 67) j = (sI N (B + 59) 0 (nI 0)).1 (B + 67) j := fun j hj => cpM_out hj
    have hQ2 : (cpM (sI N (B + 59) 0 (nI 0)) (B + 63) (B + 67) 0 (1407 * k) 1407).2 = N.2 := rfl
    generalize cpM (sI N (B + 59) 0 (nI 0)) (B + 63) (B + 67) 0 (1407 * k) 1407 = Q at *
    have hs : Q.2.2 = N.2.2 := by rw [hQ2]
    have hP1 : ∀ a, a < B + 59 ∨ B + 70 ≤ a → (sI Q (B + 66) k (nI 1)).1 a = N.1 a := fun a ha => by rw [sI_ne (by omega), ho a (by omega), sI_ne (by omega)]
    refine ⟨nI 1, N, ?_, n2.1.1, nI 1, sI Q (B + 66) k (nI 1), ?_, rfl, ⟨t, T, S, fed, tp, nd, D, upS im k 1, gS G k S, ?_, ?_, ?_, ?_, ?_, ?_⟩⟩
    · rw [← eN]
      simp (disch := omega) only [f_X7_image, reduceIte, ↓reduceIte, ↓ck_i, ↓nm_s, ↓bR_i, ↓bd_i, Option.isSome_some, Option.getD_some, gK, gR, gN, gIs, inb_nI, and_self, nI_clamp, fa_lit, pk_mul, nI_add, n10, n1z, n00, eq_self, not_true_eq_false, not_false_eq_true, nI_ltI, nI_leI, b1, b2]
    · simp (disch := omega) only [f_X8_image, f_X8_image_30, reduceIte, ↓reduceIte, ↓ck_i, ↓nm_s, ↓bR_i, ↓bd_i, Option.isSome_some, Option.getD_some, gK, gR, gN, gIs, inb_nI, and_self, nI_clamp, fa_lit, pk_mul, nI_add, n10, n1z, n00, eq_self, not_true_eq_false, not_false_eq_true, n2.1, hRN.1, hs, fa_litL, iw, Nat.mul_comm k 1407, cp, vb1]
    · have q := n1.kp (N := sI Q (B + 66) k (nI 1)) (by obtain ⟨d, hd, -⟩ := ht0; omega) hs (fun a ha => hP1 a (by omega))
      obtain ⟨z1, z2, z3, z4, z5, z6, z7, z8, z9⟩ := q
      exact ⟨z1, z2, z3, z4, z5, z6, z7, z8.mono (by omega), hcc⟩
    · have q : RQ B (sI Q (B + 66) k (nI 1)) T S c := hRN.keep hs (by rw [sI_ne (by omega), ho _ (by omega)]) (by rw [sI_ne (by omega), ho _ (by omega)])
      obtain ⟨z1, z2, z3, z4, z5, z6⟩ := q
      exact ⟨z1, z2, z3, z4, z5.mono (by omega), hcc⟩
    · exact n3.keep n12 hs (fun a ha => hP1 a (by omega)) (fun a ha => hP1 a (by omega))
    · obtain ⟨y1, y2, y3, y4, y5, y6⟩ := hYN
      refine ⟨by rw [sI_ne (by omega), ho _ (by omega)]; exact y1, by rw [sI_ne (by omega), ho _ (by omega)]; exact y2, by rw [sI_ne (by omega), ho _ (by omega)]; exact y3, by rw [sI_ne (by omega), ho _ (by omega)]; exact y4, fun i hi => ?_, fun i hi hq j hj => ?_⟩
      · by_cases e : i = k
        · subst e; rw [sI_hit, upS_eq]
        · rw [sI_oth e, upS_ne e, ho _ (by omega)]; exact y5 i hi
      · rw [sI_ne (by omega)]
        by_cases e : i = k
        · subst e
          rw [gS_eq]
          exact hin j hj
        · rw [gS_ne e, hout _ (by omega)]
          rw [upS_ne e] at hq
          exact y6 i hi hq j hj
    · obtain ⟨g1, g2, g3, g4, g5⟩ := hA.mono (Nat.le_succ c)
      refine ⟨g1, g2, g3, g4, fun i hi => ?_⟩
      by_cases e : i = k
      · subst e
        rw [upS_eq, gS_eq]
        exact ⟨by omega, fun _ => hQ.2.2.2.2.2.2.2.1.mono (by omega)⟩
      · rw [upS_ne e, gS_ne e]; exact g5 i hi
    · rw [sI_l, hQ2, l1, l2]; exact hbl
  · by_cases hi1 : im k = 1
    · obtain ⟨a, ra, ca⟩ := hX.2.2.2.2.2.2.2.2.1 k hk hi1
      have hC := hQ.1
      have hb := hX.2.2.2.2.2.2.2.2.2.2.1 (k + 12) (by omega) a (by unfold ent; rw [if_neg (by omega), Nat.add_sub_cancel]; exact ra)
      have hb2 : B + 71 ≤ a := hb.2.1
      obtain ⟨N1, eN, b3, b4, b5, b6⟩ := p_become (a := B + 15) (b := a) hQ.2.2.2.1 hb.1 (by omega)
      have hc1 : N1.2.2 = M.2.2 := congrArg Prod.snd b3
      have hI : ∀ b, b ≠ B → (b < B + 15 ∨ B + 25 ≤ b) → (sI N1 B 3 (nI 0)).1 b = M.1 b := fun b h1 h2 => by rw [sI_ne h1]; exact b4 b (by omega)
      have hcs : CS (sI N1 B 3 (nI 0)).1 (B + 15) T (G k) := by
        refine CS.copy hQ.2.2.2.2.1 ca ?_ (fun j j1 j2 q hq => ?_)
        · rw [sI_ne (by omega)]; exact b5
        · rw [sI_ne (by omega)]; exact b6 j j1 j2 q hq
      obtain ⟨q1, q2⟩ := comp_to (N := sI N1 B 3 (nI 0)) (nd2 := 0) hQ hX hc1 (fun b h1 h2 _ => hI b h1 h2) hcs (ak.2 hi1) sI_hit (by omega) n12
      have e1 : f_X7_image B (nI k) 1 M = some (nI 1, sI N1 B 3 (nI 0)) := by
        have ni : ¬ nI (im k) = nI 0 := by rw [hi1]; decide
        have ka : M.2.2.2.1 a = 5 := hb.1.1
        simp (disch := omega) only [f_X7_image, f_X7_image_24, f_X7_image_50, reduceIte, ↓reduceIte, ↓ck_i, ↓nm_s, ↓bR_i, ↓bd_i, Option.isSome_some, Option.getD_some, gK, gR, gN, gIs, inb_nI, and_self, nI_clamp, fa_lit, pk_mul, nI_add, n10, n1z, n00, eq_self, not_true_eq_false, not_false_eq_true, nI_ltI, nI_leI, b1, b2, hC, hQ.2.2.2.1, xk, ni, ra, Option.elim_some, ka, eN, hc1]
      have hN2 : (sI N1 B 3 (nI 0)).2 = M.2 := b3
      generalize sI N1 B 3 (nI 0) = N at *
      have hsN : N.2.2 = M.2.2 := by rw [hN2]
      have r59 : ∀ b, B + 59 ≤ b → N.1 b = M.1 b := fun b hb => hI b (by omega) (by omega)
      have hRN : RQ B N T S c := hR.keep hsN (r59 _ (by omega)) (r59 _ (by omega))
      have hRN2 := hRN.th (j := 0) (v := nI 0)
      have hYN : RX B (sI N (B + 59) 0 (nI 0)) fed tp nd D im G := hY.keep (by rw [sI_ne (by omega), r59 _ (by omega)]) (by rw [sI_ne (by omega), r59 _ (by omega)]) (by rw [sI_ne (by omega), r59 _ (by omega)]) (by rw [sI_ne (by omega), r59 _ (by omega)]) (by rw [sI_oth (by omega), r59 _ (by omega)]) (by rw [sI_oth (by omega), r59 _ (by omega)])
      have yk2 := hYN.2.2.2.2.1 k hk
      have cp := q_copies (s := B + 67) (d := B + 63) (o1 := 1407 * k) (o2 := 0) (M := sI N (B + 59) 0 (nI 0)) (ns := 2814) (nd := 1407) (by simp only [hRN2.1]) (by simp only [hRN2.1]) (by simp only [hRN2.1]) (by simp only [hRN2.1]) (by omega) (by omega) (by omega) (by omega) (by omega)
      have ho : ∀ b, b ≠ B + 63 → (cpM (sI N (B + 59) 0 (nI 0)) (B + 67) (B + 63) (1407 * k) 0 1407).1 b = (sI N (B + 59) 0 (nI 0)).1 b := fun b hb => cpM_o hb
      have hin : RW 1407 ((cpM (sI N (B + 59) 0 (nI 0)) (B + 67) (B + 63) (1407 * k) 0 1407).1 (B + 63)) (G k) := fun j hj => by
        have := cpM_in (M := sI N (B + 59) 0 (nI 0)) (s := B + 67) (d := B + 63) (o1 := 1407 * k) (o2 := 0) hj
        rw [Nat.zero_add] at this
        rw [this]; exact hYN.2.2.2.2.2 k hk hi1 j hj
      have hQ2 : (cpM (sI N (B + 59) 0 (nI 0)) (B + 67) (B + 63) (1407 * k) 0 1407).2 = N.2 := rfl
      generalize cpM (sI N (B + 59) 0 (nI 0)) (B + 67) (B + 63) (1407 * k) 0 1407 = Q at *
      have hs : Q.2.2 = N.2.2 := by rw [hQ2]
      have hP1 : ∀ a, a < B + 59 ∨ B + 70 ≤ a → (sI Q (B + 59) 23 (nI 0)).1 a = N.1 a := fun a ha => by rw [sI_ne (by omega), ho a (by omega), sI_ne (by omega)]
      refine ⟨nI 1, N, e1, hRN.1.1, nI 1, sI Q (B + 59) 23 (nI 0), ?_, rfl, ⟨t, T, G k, fed, tp, 0, D, im, G, ?_, ?_, ?_, ?_, ?_, ?_⟩⟩
      · have ni : ¬ nI (im k) = nI 0 := by rw [hi1]; decide
        simp (disch := omega) only [f_X8_image, f_X8_image_30, reduceIte, ↓reduceIte, ↓ck_i, ↓nm_s, ↓bR_i, ↓bd_i, Option.isSome_some, Option.getD_some, gK, gR, gN, gIs, inb_nI, and_self, nI_clamp, fa_lit, pk_mul, nI_add, n10, n1z, n00, eq_self, not_true_eq_false, not_false_eq_true, hRN.1, hRN2.1, hs, fa_litL, iw, yk2, ni, Nat.mul_comm k 1407, cp]
      · have q := q1.kp (N := sI Q (B + 59) 23 (nI 0)) (by obtain ⟨d, hd, -⟩ := ht0; omega) hs (fun a ha => hP1 a (by omega))
        obtain ⟨z1, z2, z3, z4, z5, z6, z7, z8, z9⟩ := q
        exact ⟨z1, z2, z3, z4, z5, z6, z7, z8.mono (by omega), hcc⟩
      · obtain ⟨z1, z2, z3, z4, z5, z6⟩ := hRN2
        exact ⟨by rw [sI_sh, hs]; exact z1, by rw [sI_ne (by omega), ho _ (by omega)]; exact z2, by rw [sI_ne (by omega)]; exact hin, z4, (ak.2 hi1).mono (by omega), hcc⟩
      · exact q2.keep (by omega) hs (fun a ha => hP1 a (by omega)) (fun a ha => hP1 a (by omega))
      · obtain ⟨y1, y2, y3, y4, y5, y6⟩ := hYN
        exact ⟨by rw [sI_oth (by omega), ho _ (by omega)]; exact y1, by rw [sI_ne (by omega), ho _ (by omega)]; exact y2, sI_hit, fun i hi => absurd hi (by omega), by rw [sI_ne (by omega), ho _ (by omega)]; exact y5, by rw [sI_ne (by omega), ho _ (by omega)]; exact y6⟩
      · obtain ⟨g1, g2, g3, g4, g5⟩ := hA.mono (Nat.le_succ c)
        exact ⟨g1, g2, by omega, fun i hi => absurd hi (by omega), g5⟩
      · rw [sI_l, hQ2, hN2]; exact hbl
    · have hi0 : im k = 0 := by have := ak.1; omega
      rw [hi0] at xk yk
      have yk2 : (sI M (B + 59) 0 (nI 0)).1 (B + 66) k = nI 0 := by rw [sI_ne (by omega)]; exact yk
      exact ⟨nI 0, M, by simp (disch := omega) only [f_X7_image, reduceIte, ↓reduceIte, ↓ck_i, ↓nm_s, ↓bR_i, ↓bd_i, Option.isSome_some, Option.getD_some, gK, gR, gN, gIs, inb_nI, and_self, nI_clamp, fa_lit, pk_mul, nI_add, n10, n1z, n00, eq_self, not_true_eq_false, not_false_eq_true, nI_ltI, nI_leI, b1, b2, hQ.1, xk], hR.1.1, nI 0, sI M (B + 59) 0 (nI 0), by simp (disch := omega) only [f_X8_image, reduceIte, ↓reduceIte, ↓ck_i, ↓nm_s, ↓bR_i, ↓bd_i, Option.isSome_some, Option.getD_some, gK, gR, gN, gIs, inb_nI, and_self, nI_clamp, fa_lit, pk_mul, nI_add, n10, n1z, n00, eq_self, not_true_eq_false, not_false_eq_true, hR.1, hR2.1, fa_litL, iw, yk2], rfl, inv_q ⟨hQ, hR, hX, hY, hA⟩ hcc KC.rf (KR.th (by omega) (by omega)) hbl⟩
end IMAGE
