section UNDO
variable {B t c fed nd : Nat} {T S tp im : Nat → Nat} {D G : Nat → Nat → Nat} {M N : Mm}
/-- the component's cells behind a deed: now is another state, its terms, tape and other states stand as they did -/
theorem comp_to {S2 : Nat → Nat} {nd2 : Nat} (hQ : CQ B t M T S c) (hX : CX B t M T fed tp nd D im G) (hsh : N.2.2 = M.2.2) (hI : ∀ b, b ≠ B → (b < B + 15 ∨ B + 25 ≤ b) → (b < B + 44 ∨ B + 59 ≤ b) → N.1 b = M.1 b) (hs : CS N.1 (B + 15) T S2) (hw : SW T S2 c) (hn : N.1 B 3 = nI nd2) (hnd : nd2 ≤ nd) (h12 : nd ≤ 12) : CQ B t N T S2 c ∧ CX B t N T fed tp nd2 D im G := by
  obtain ⟨h1, h2, h3, h4, h5, h6, h7, h8, h9⟩ := hQ
  obtain ⟨a1, a2, a3, a4, a5, a6, a7, a8, a9, a10⟩ := hX
  have ht : t = B + 1 ∨ t = B + 30 := by
    obtain ⟨d, hd, -⟩ := a1
    omega
  refine ⟨⟨by rw [hsh]; exact h1, by rw [hsh]; exact h2, by rw [hsh]; exact h3, by rw [hsh]; exact h4, h5, h6.of (fun b b1 b2 => hI b (by omega) (by omega) (by omega)), hs, hw, h9⟩, ?_⟩
  unfold CX
  rw [hsh, hI (B + 28) (by omega) (by omega) (by omega), hI (B + 29) (by omega) (by omega) (by omega), hI (B + 27) (by omega) (by omega) (by omega)]
  refine ⟨a1, a2, a3, a4, a5, hn, fun k hk => ?_, a8, fun k hk hq => ?_, a10⟩
  · obtain ⟨a, q1, q2⟩ := a7 k (by omega)
    have q3 := (a10.2.1 k (by omega) a (by unfold ent; rw [if_pos (by omega)]; exact q1)).2
    exact ⟨a, q1, q2.of (fun b b1 b2 => hI b (by omega) (by omega) (by omega))⟩
  · obtain ⟨a, q1, q2⟩ := a9 k hk hq
    have q3 := (a10.2.1 (k + 12) (by omega) a (by unfold ent; rw [if_neg (by omega), Nat.add_sub_cancel]; exact q1)).2
    exact ⟨a, q1, q2.of (fun b b1 b2 => hI b (by omega) (by omega) (by omega))⟩
theorem pr_undo (hcc : c + 1 ≤ 600) : Pr B c (f_X7_undo B) (f_X8_undo (B + 59)) := by
  intro M ⟨t, T, S, fed, tp, nd, D, im, G, hQ, hR, hX, hY, hA, hbl⟩
  have hC := hQ.1
  have hD := hR.1
  have x3 := hX.2.2.2.2.2.1
  have y23 := hY.2.2.1
  have n12 := hA.2.2.1
  have hth : ∀ (N : Mm) (v : Int32), KR B N (sI N (B + 59) 0 v) := fun N v => by
    refine ⟨rfl, fun a ha _ _ => sI_ne ha, ?_, ?_, rfl⟩
    · show (if _ ∧ 2 = 0 then _ else _) = _
      rw [if_neg (by omega)]
    · show (if _ ∧ 23 = 0 then _ else _) = _
      rw [if_neg (by omega)]
  by_cases h0 : nd = 0
  · subst h0
    have e23 : (sI M (B + 59) 0 (nI 0)).1 (B + 59) 23 = nI 0 := by rw [(hth M (nI 0)).2.2.2.1]; exact y23
    have hD' := (hR.th (j := 0) (v := nI 0)).1
    refine ⟨-nI 1, M, ?_, hD.1, -nI 1, sI M (B + 59) 0 (nI 0), ?_, rfl, inv_q ⟨hQ, hR, hX, hY, hA⟩ hcc KC.rf (hth _ _) hbl⟩
    · simp (disch := omega) only [f_X7_undo, reduceIte, ↓reduceIte, gK, gR, gN, gIs, bR_s, bd_s, nm_s, ck, inb_nI, and_self, nI_clamp, fa_lit, pk_mul, nI_add, n10, n1z, n00, eq_self, not_true_eq_false, not_false_eq_true, hC, x3, nI_ltI, Nat.lt_irrefl]
    · simp (disch := omega) only [f_X8_undo, reduceIte, ↓reduceIte, gK, gR, gN, gIs, bR_s, bd_s, nm_s, ck, inb_nI, and_self, nI_clamp, fa_lit, pk_mul, nI_add, n10, n1z, n00, eq_self, not_true_eq_false, not_false_eq_true, hD, hD', e23]
  · obtain ⟨m, rfl⟩ : ∃ m, nd = m + 1 := ⟨nd - 1, by omega⟩
    obtain ⟨a, ra, ca⟩ := hX.2.2.2.2.2.2.1 m (by omega)
    have hb := hX.2.2.2.2.2.2.2.2.2.2.1 m (by omega) a (by unfold ent; rw [if_pos (by omega)]; exact ra)
    obtain ⟨N1, eN, b1, b2, b3, b4⟩ := p_become (a := B + 15) (b := a) hQ.2.2.2.1 hb.1 (by omega)
    have eB : N1.1 B = M.1 B := b2 B (by omega)
    have hsub : nI (m + 1) - nI 1 = nI m := by rw [pk_sub (by omega)]; rfl
    have hc1 : N1.2.2 = M.2.2 := congrArg Prod.snd b1
    have x3' : N1.1 B 3 = nI (m + 1) := by rw [eB]; exact x3
    have hC1 : CmA B N1.2.2 := by rw [hc1]; exact hC
    have hC2 : CmA B (sI N1 B 3 (nI m)).2.2 := hC1
    have e3 : (sI N1 B 3 (nI m)).1 B 3 = nI m := by
      show (if B = B ∧ 3 = 3 then _ else _) = _
      rw [if_pos ⟨rfl, rfl⟩]
    have a0 : 0 < m + 1 := by omega
    have hI : ∀ b, b ≠ B → (b < B + 15 ∨ B + 25 ≤ b) → (sI N1 B 3 (nI m)).1 b = M.1 b := fun b h1 h2 => by rw [sI_ne h1]; exact b2 b (by omega)
    have hcs : CS (sI N1 B 3 (nI m)).1 (B + 15) T (D m) := by
      refine CS.copy hQ.2.2.2.2.1 ca ?_ (fun j j1 j2 k hk => ?_)
      · rw [sI_ne (by omega)]; exact b3
      · rw [sI_ne (by omega)]; exact b4 j j1 j2 k hk
    obtain ⟨q1, q2⟩ := comp_to (N := sI N1 B 3 (nI m)) (nd2 := m) hQ hX hc1 (fun b h1 h2 _ => hI b h1 h2) hcs (hA.2.2.2.1 m (by omega)) e3 (by omega) n12
    have qL : (sI N1 B 3 (nI m)).2.1 = M.2.1 := congrArg Prod.fst b1
    refine ⟨nI m, sI N1 B 3 (nI m), ?_, ?_, ?_⟩
    · simp (disch := omega) only [f_X7_undo, reduceIte, ↓reduceIte, gK, gR, gN, gIs, bR_s, bd_s, nm_s, ck, inb_nI, and_self, nI_clamp, fa_lit, pk_mul, nI_add, n10, n1z, n00, eq_self, not_true_eq_false, not_false_eq_true, hC, x3, nI_ltI, a0, hsub, ra, Option.elim, hQ.2.2.2.1, eN, hC1, x3', hC2, e3]
    · show N1.2.2.2.1 (B + 59) = 8
      rw [hc1]; exact hD.1
    have hNs : (sI N1 B 3 (nI m)).2.2 = M.2.2 := hc1
    clear hcs hC2 e3 eB b1 b2 b3 b4 x3' hC1
    generalize sI N1 B 3 (nI m) = N at hI q1 q2 qL hNs ⊢
    have rN : ∀ b, B + 59 ≤ b → N.1 b = M.1 b := fun b hb => hI b (by omega) (by omega)
    have hDN : RfA B N.2.2 := by rw [hNs]; exact hD
    have hD1 : RfA B (sI N (B + 59) 0 (nI 0)).2.2 := hDN
    have hD2 : RfA B (sI (sI N (B + 59) 0 (nI 0)) (B + 59) 23 (nI m)).2.2 := hDN
    have e1 : (sI N (B + 59) 0 (nI 0)).1 (B + 59) 23 = nI (m + 1) := by rw [(hth N (nI 0)).2.2.2.1, rN _ (by omega)]; exact y23
    have f2 : (sI N (B + 59) 0 (nI 0)).1 (B + 59) 2 = nI fed := by rw [(hth N (nI 0)).2.2.1, rN _ (by omega)]; exact hY.1
    have e2 : (sI (sI N (B + 59) 0 (nI 0)) (B + 59) 23 (nI m)).1 (B + 59) 23 = nI m := by
      show (if B + 59 = B + 59 ∧ 23 = 23 then _ else _) = _
      rw [if_pos ⟨rfl, rfl⟩]
    have f3 : (sI (sI N (B + 59) 0 (nI 0)) (B + 59) 23 (nI m)).1 (B + 59) 2 = nI fed := by
      show (if B + 59 = B + 59 ∧ 2 = 23 then _ else (sI N (B + 59) 0 (nI 0)).1 (B + 59) 2) = _
      rw [if_neg (by omega)]; exact f2
    have o2 : ∀ b, b ≠ B + 59 → (sI (sI N (B + 59) 0 (nI 0)) (B + 59) 23 (nI m)).1 b = N.1 b := fun b hb => by rw [sI_ne hb, sI_ne hb]
    have hL2 : (sI (sI N (B + 59) 0 (nI 0)) (B + 59) 23 (nI m)).2 = N.2 := rfl
    have cp := q_copies (s := B + 65) (d := B + 63) (o1 := 1407 * m) (o2 := 0) (M := (sI (sI N (B + 59) 0 (nI 0)) (B + 59) 23 (nI m))) (ns := 16884) (nd := 1407) (hD2.2.2.2.2.2.2.2.2.2.2.2.2.2.2.2.2.2.1) (hD2.2.2.2.2.2.2.2.2.2.2.2.1) (hD2.2.2.2.2.2.2.2.2.2.2.2.2.2.2.2.2.2.2.1) (hD2.2.2.2.2.2.2.2.2.2.2.2.2.1) (by omega) (by omega) (by omega) (by omega) (by omega)
    have hne : ¬ nI (m + 1) = nI 0 := by rw [nI_eq (by omega) (by omega)]; omega
    have e5 : (cpM (sI (sI N (B + 59) 0 (nI 0)) (B + 59) 23 (nI m)) (B + 65) (B + 63) (1407 * m) 0 1407).1 (B + 59) 23 = nI m := by rw [cpM_o (by omega)]; exact e2
    have hD5 : RfA B (cpM (sI (sI N (B + 59) 0 (nI 0)) (B + 59) 23 (nI m)) (B + 65) (B + 63) (1407 * m) 0 1407).2.2 := hDN
    refine ⟨nI m, cpM (sI (sI N (B + 59) 0 (nI 0)) (B + 59) 23 (nI m)) (B + 65) (B + 63) (1407 * m) 0 1407, ?_, rfl, ?_⟩
    · simp (disch := omega) only [f_X8_undo, reduceIte, ↓reduceIte, gK, gR, gN, gIs, bR_s, bd_s, nm_s, ck, inb_nI, and_self, nI_clamp, fa_lit, pk_mul, nI_add, n10, n1z, n00, eq_self, not_true_eq_false, not_false_eq_true, hDN, hD1, hD2, hD5, e1, hsub, e2, hne, cp, e5]
    have e6 : (cpM (sI (sI N (B + 59) 0 (nI 0)) (B + 59) 23 (nI m)) (B + 65) (B + 63) (1407 * m) 0 1407).1 (B + 59) 2 = nI fed := by rw [cpM_o (by omega)]; exact f3
    have o6 : ∀ b, b ≠ B + 59 → b ≠ B + 63 → (cpM (sI (sI N (B + 59) 0 (nI 0)) (B + 59) 23 (nI m)) (B + 65) (B + 63) (1407 * m) 0 1407).1 b = N.1 b := fun b h1 h2 => by rw [cpM_o h2]; exact o2 b h1
    have w6 : RW 1407 ((cpM (sI (sI N (B + 59) 0 (nI 0)) (B + 59) 23 (nI m)) (B + 65) (B + 63) (1407 * m) 0 1407).1 (B + 63)) (D m) := fun k hk => by
      have := cpM_in (M := (sI (sI N (B + 59) 0 (nI 0)) (B + 59) 23 (nI m))) (s := B + 65) (d := B + 63) (o1 := 1407 * m) (o2 := 0) hk
      rw [Nat.zero_add] at this
      rw [this, o2 (B + 65) (by omega), rN (B + 65) (by omega)]
      exact hY.2.2.2.1 m (by omega) k hk
    have hL6 : (cpM (sI (sI N (B + 59) 0 (nI 0)) (B + 59) 23 (nI m)) (B + 65) (B + 63) (1407 * m) 0 1407).2 = N.2 := rfl
    generalize cpM (sI (sI N (B + 59) 0 (nI 0)) (B + 59) 23 (nI m)) (B + 65) (B + 63) (1407 * m) 0 1407 = P at e5 e6 o6 w6 hL6 hD5 ⊢
    have hs6 : P.2.2 = N.2.2 := congrArg Prod.snd hL6
    have o7 : ∀ b, B + 59 ≤ b → b ≠ B + 59 → b ≠ B + 63 → P.1 b = M.1 b := fun b h0 h1 h2 => (o6 b h1 h2).trans (rN b h0)
    have q3 := q1.keep q2 hs6 (fun b hb => o6 b (by omega) (by omega))
    have q4 := q2.keep (by omega) hs6 (fun b hb => o6 b (by omega) (by omega)) (fun b hb => o6 b (by omega) (by omega))
    have wD := hA.2.2.2.1 m (by omega)
    obtain ⟨y1, y2, y3, y4, y5, y6⟩ := hY
    obtain ⟨g1, g2, g3, g4, g5⟩ := hA
    refine ⟨t, T, D m, fed, tp, m, D, im, G, ?_, ⟨hD5, ?_, w6, hQ.2.2.2.2.1, wD.mono (by omega), hcc⟩, q4, ⟨e6, ?_, e5, ?_, ?_, ?_⟩, ⟨g1, g2, by omega, fun k hk => (g4 k (by omega)).mono (by omega), fun k hk => ⟨(g5 k hk).1, fun q => ((g5 k hk).2 q).mono (by omega)⟩⟩, ?_⟩
    · obtain ⟨z1, z2, z3, z4, z5, z6, z7, z8, z9⟩ := q3
      exact ⟨z1, z2, z3, z4, z5, z6, z7, z8.mono (by omega), hcc⟩
    · rw [o7 (B + 61) (by omega) (by omega) (by omega)]; exact hR.2.1
    · rw [o7 (B + 60) (by omega) (by omega) (by omega)]; exact y2
    · intro k hk
      rw [o7 (B + 65) (by omega) (by omega) (by omega)]; exact y4 k (by omega)
    · rw [o7 (B + 66) (by omega) (by omega) (by omega)]; exact y5
    · rw [o7 (B + 67) (by omega) (by omega) (by omega)]; exact y6
    · have l6 : P.2.1 = M.2.1 := (congrArg Prod.fst hL6).trans qL
      rw [l6]; exact hbl
end UNDO
