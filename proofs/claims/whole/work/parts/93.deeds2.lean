section SELL
variable {B t c l : Nat} {T S S2 : Nat → Nat} {M N P : Mm} {x y z u : Int32}
theorem m1_eq : (nI 0 - nI 1 = -nI 1) = True := by decide
theorem vb1 : vp_nar .boolean (nI 1) = nI 1 := by decide
theorem pyS_at {g p q : Nat} (h : g = 0 ∨ q ≠ 1200 + (g - 1)) : pyS S g p q = S q := by
  unfold pyS
  split
  · rfl
  · exact upS_ne (by omega)
theorem pyS_le {g p q : Nat} (h : S q ≤ 1000000000) : pyS S g p q ≤ 1000000000 := by
  unfold pyS
  split
  · exact h
  · unfold upS
    split
    · omega
    · exact h
theorem pr_sell (hcc : c + 1 ≤ 600) : Pr B c (f_X7_sell B x y z u) (f_X8_sell (B + 59) x y z u) := by
  refine pr_d hcc (fun N => sI N (B + 59) 0 (nI 0)) g0 (fun M t T S hQ hR ht => ?_)
  have w0 := hR.2.2.2.1.1
  have w1 := hR.2.2.2.1.2.1
  have hR2 := hR.th (j := 0) (v := nI 0)
  have y60 := hR.2.2.2.2.1.1
  have no : ∀ {e1 : f_X7_sell B x y z u M = some (nI 0, M)} {e2 : f_X8_sell (B + 59) x y z u M = some (nI 0, sI M (B + 59) 0 (nI 0))}, (∃ v P, f_X7_sell B x y z u M = some (v, M) ∧ f_X8_sell (B + 59) x y z u M = some (v, P) ∧ KR B M P ∧ P.2 = M.2) := fun {e1} {e2} => ⟨nI 0, _, e1, e2, KR.th (by omega) (by omega), rfl⟩
  rcases ixL x (n := T 0) (by omega) with h | ⟨l, hl, rfl⟩
  · exact Or.inl (no (e1 := by simp (disch := omega) only [f_X7_sell, reduceIte, ↓reduceIte, ↓ck_i, ↓nm_s, ↓bR_i, ↓bd_i, Option.isSome_some, Option.getD_some, gK, gR, gN, gIs, inb_nI, and_self, nI_clamp, fa_lit, pk_mul, nI_add, n10, n1z, n00, eq_self, not_true_eq_false, not_false_eq_true, hQ.1, p_isBond_0 hQ h]) (e2 := by simp (disch := omega) only [f_X8_sell, reduceIte, ↓reduceIte, ↓ck_i, ↓nm_s, ↓bR_i, ↓bd_i, Option.isSome_some, Option.getD_some, gK, gR, gN, gIs, inb_nI, and_self, nI_clamp, fa_lit, pk_mul, nI_add, n10, n1z, n00, eq_self, not_true_eq_false, not_false_eq_true, hR.1, hR2.1, q_isBond_0 hR2 h]))
  have wl := (hR.2.2.2.1.2.2 l hl).2.1
  rcases ixN y (n := T (12 + 7 * l)) (by omega) with h | ⟨k, hk, rfl⟩
  · exact Or.inl (no (e1 := by simp (disch := omega) only [f_X7_sell, reduceIte, ↓reduceIte, ↓ck_i, ↓nm_s, ↓bR_i, ↓bd_i, Option.isSome_some, Option.getD_some, gK, gR, gN, gIs, inb_nI, and_self, nI_clamp, fa_lit, pk_mul, nI_add, n10, n1z, n00, eq_self, not_true_eq_false, not_false_eq_true, hQ.1, p_isBond_n hQ hl h]) (e2 := by simp (disch := omega) only [f_X8_sell, reduceIte, ↓reduceIte, ↓ck_i, ↓nm_s, ↓bR_i, ↓bd_i, Option.isSome_some, Option.getD_some, gK, gR, gN, gIs, inb_nI, and_self, nI_clamp, fa_lit, pk_mul, nI_add, n10, n1z, n00, eq_self, not_true_eq_false, not_false_eq_true, hR.1, hR2.1, q_isBond_n hR2 hl h]))
  have pb := p_isBond_y hQ hl hk
  have qb := q_isBond_y hR2 hl hk
  rcases ixL z (n := T 1) (by omega) with h | ⟨o, ho, rfl⟩
  · exact Or.inl (no (e1 := by simp (disch := omega) only [f_X7_sell, reduceIte, ↓reduceIte, ↓ck_i, ↓nm_s, ↓bR_i, ↓bd_i, Option.isSome_some, Option.getD_some, gK, gR, gN, gIs, inb_nI, and_self, nI_clamp, fa_lit, pk_mul, nI_add, n10, n1z, n00, eq_self, not_true_eq_false, not_false_eq_true, hQ.1, pb, p_isHolder_n hQ h]) (e2 := by simp (disch := omega) only [f_X8_sell, reduceIte, ↓reduceIte, ↓ck_i, ↓nm_s, ↓bR_i, ↓bd_i, Option.isSome_some, Option.getD_some, gK, gR, gN, gIs, inb_nI, and_self, nI_clamp, fa_lit, pk_mul, nI_add, n10, n1z, n00, eq_self, not_true_eq_false, not_false_eq_true, hR.1, hR2.1, qb, q_isHolder_n hR2 h]))
  have ph := p_isHolder_y hQ ho
  have qh := q_isHolder_y hR2 ho
  rcases ixL u (n := 99999 + 1) (by omega) with h | ⟨p, hp, rfl⟩
  · have iw := wi_n (M := sI M (B + 59) 0 (nI 0)) (n := 99999) (by omega) h
    rcases h with h | ⟨h1, h2⟩
    · exact Or.inl (no (e1 := by simp (disch := omega) only [f_X7_sell, reduceIte, ↓reduceIte, ↓ck_i, ↓nm_s, ↓bR_i, ↓bd_i, Option.isSome_some, Option.getD_some, gK, gR, gN, gIs, inb_nI, and_self, nI_clamp, fa_lit, pk_mul, nI_add, n10, n1z, n00, eq_self, not_true_eq_false, not_false_eq_true, hQ.1, pb, ph, h]) (e2 := by simp (disch := omega) only [f_X8_sell, reduceIte, ↓reduceIte, ↓ck_i, ↓nm_s, ↓bR_i, ↓bd_i, Option.isSome_some, Option.getD_some, gK, gR, gN, gIs, inb_nI, and_self, nI_clamp, fa_lit, pk_mul, nI_add, n10, n1z, n00, eq_self, not_true_eq_false, not_false_eq_true, hR.1, hR2.1, qb, qh, fa_litL, iw]))
    · have h3 : ¬ u ≤ nI 99999 := by
        rw [fa_le, nI_toInt (by omega)]; rw [fa_le, nI_toInt (by omega)] at h2; omega
      exact Or.inl (no (e1 := by simp (disch := omega) only [f_X7_sell, reduceIte, ↓reduceIte, ↓ck_i, ↓nm_s, ↓bR_i, ↓bd_i, Option.isSome_some, Option.getD_some, gK, gR, gN, gIs, inb_nI, and_self, nI_clamp, fa_lit, pk_mul, nI_add, n10, n1z, n00, eq_self, not_true_eq_false, not_false_eq_true, hQ.1, pb, ph, h1, h3]) (e2 := by simp (disch := omega) only [f_X8_sell, reduceIte, ↓reduceIte, ↓ck_i, ↓nm_s, ↓bR_i, ↓bd_i, Option.isSome_some, Option.getD_some, gK, gR, gN, gIs, inb_nI, and_self, nI_clamp, fa_lit, pk_mul, nI_add, n10, n1z, n00, eq_self, not_true_eq_false, not_false_eq_true, hR.1, hR2.1, qb, qh, fa_litL, iw]))
  have b1 : ¬ p < 0 := by omega
  have b2 : p ≤ 99999 := by omega
  have iw : ∀ M : Mm, f_X8_within (nI p).toInt64 (lN 0) (lN 99999) M = some (nI 1, M) := fun M => wi_y (by omega) (by omega)
  have s3 := hQ.2.2.2.2.2.2.1.2.2.2.2 l hl k hk
  have s6 := s3.1
  have s7 := s3.2.1
  have sc := hQ.2.2.2.2.2.2.1.2.1 o ho
  clear s3
  have r6 := hR2.2.2.1 (60 * l + k) (by omega)
  have r7 := hR2.2.2.1 (240 + (60 * l + k)) (by omega)
  rw [← Nat.add_assoc] at r7
  have rc := hR2.2.2.1 (1200 + o) (by omega)
  have v3 := hR.2.2.2.2.1.2.2.2.2.1 l hl k hk
  have v4 := v3.1
  have v5 := v3.2.1
  clear v3
  have vc := hR.2.2.2.2.1.2.1 o ho
  have a7 : 240 + (60 * l + k) = 240 + 60 * l + k := by omega
  by_cases hs : S (60 * l + k) = 0
  · by_cases hg : S (240 + 60 * l + k) = 0
    · rw [hg] at s7 r7
      exact Or.inl (no (e1 := by simp (disch := omega) only [f_X7_sell, reduceIte, ↓reduceIte, ↓ck_i, ↓nm_s, ↓bR_i, ↓bd_i, Option.isSome_some, Option.getD_some, gK, gR, gN, gIs, inb_nI, and_self, nI_clamp, fa_lit, pk_mul, nI_add, n10, n1z, n00, eq_self, not_true_eq_false, not_false_eq_true, hQ.1, hQ.2.2.2.1, pb, ph, nI_ltI, nI_leI, b1, b2, p_spotOf, s6, s7, hs, m1_eq]) (e2 := by simp (disch := omega) only [f_X8_sell, reduceIte, ↓reduceIte, ↓ck_i, ↓nm_s, ↓bR_i, ↓bd_i, Option.isSome_some, Option.getD_some, gK, gR, gN, gIs, inb_nI, and_self, nI_clamp, fa_lit, pk_mul, nI_add, n10, n1z, n00, eq_self, not_true_eq_false, not_false_eq_true, hR.1, hR2.1, qb, qh, fa_litL, iw, p_bondAt, a7, r7, Nat.zero_add, r6, hs, neg1_lt]))
    · obtain ⟨j, hj⟩ : ∃ j, S (240 + 60 * l + k) = j + 1 := ⟨S (240 + 60 * l + k) - 1, by omega⟩
      rw [hj] at s7 r7 v5
      have nj : ¬ nI j = -nI 1 := neg1_ne (by omega)
      have nj0 : ¬ j < 0 := by omega
      by_cases hjo : j = o
      · exact Or.inl (no (e1 := by simp (disch := omega) only [f_X7_sell, reduceIte, ↓reduceIte, ↓ck_i, ↓nm_s, ↓bR_i, ↓bd_i, Option.isSome_some, Option.getD_some, gK, gR, gN, gIs, inb_nI, and_self, nI_clamp, fa_lit, pk_mul, nI_add, n10, n1z, n00, eq_self, not_true_eq_false, not_false_eq_true, hQ.1, hQ.2.2.2.1, pb, ph, nI_ltI, nI_leI, b1, b2, p_spotOf, s6, s7, hs, pk_sub, Nat.add_sub_cancel, nj, nI_eq, hjo, ite_self]) (e2 := by simp (disch := omega) only [f_X8_sell, reduceIte, ↓reduceIte, ↓ck_i, ↓nm_s, ↓bR_i, ↓bd_i, Option.isSome_some, Option.getD_some, gK, gR, gN, gIs, inb_nI, and_self, nI_clamp, fa_lit, pk_mul, nI_add, n10, n1z, n00, eq_self, not_true_eq_false, not_false_eq_true, hR.1, hR2.1, qb, qh, fa_litL, iw, p_bondAt, a7, r7, Nat.zero_add, r6, hs, pk_sub, Nat.add_sub_cancel, nI_ltI, nj0, nI_eq, hjo, ite_self]))
      by_cases hca : p ≤ S (1200 + o)
      · refine Or.inr ⟨nI 1, upS (pyS (upS S (1200 + o) (S (1200 + o) - p)) (j + 1) p) (240 + 60 * l + k) (o + 1), ?_, fun N1 eN1 hQ1 => ?_, fun N P1 hRN eP1 hRP => ?_⟩
        · have hw := hQ.2.2.2.2.2.2.2.1
          have at0 : ∀ q, q ≠ 1200 + o → q ≠ 1200 + j → q ≠ 240 + 60 * l + k → upS (pyS (upS S (1200 + o) (S (1200 + o) - p)) (j + 1) p) (240 + 60 * l + k) (o + 1) q = S q := fun q q1 q2 q3 => by rw [upS_ne q3, pyS_at (Or.inr (by omega)), upS_ne q1]
          refine hw.deed (at0 _ (by omega) (by omega) (by omega)) (fun h hh => ?_) (fun l' hl' => ?_) (fun l' hl' y y1 y2 => ?_) (fun l' hl' k' hk' => ?_) (fun l' hl' w hw => at0 _ (by omega) (by omega) (by omega))
          · rw [upS_ne (by omega)]
            refine pyS_le ?_
            unfold upS
            split
            · omega
            · exact hw.2.1 h hh
          · have := hw.2.2.1 l' hl'
            rw [at0 _ (by omega) (by omega) (by omega), at0 _ (by omega) (by omega) (by omega)]
            exact ⟨this.1, this.2.1, by omega⟩
          · have q := (hw.2.2.2.1 l' hl' y y1 y2).1
            rw [at0 _ (by omega) (by omega) (by omega), at0 _ (by omega) (by omega) (by omega)]
            exact ⟨q, fun _ => rfl, rfl⟩
          · have w := (hR.2.2.2.1.2.2 l' hl').2.1
            rw [at0 (60 * l' + k') (by omega) (by omega) (by omega), at0 (480 + 60 * l' + k') (by omega) (by omega) (by omega), at0 (720 + 60 * l' + k') (by omega) (by omega) (by omega), at0 (960 + 60 * l' + k') (by omega) (by omega) (by omega)]
            refine ⟨rfl, ?_, rfl, rfl, rfl⟩
            by_cases e : 240 + 60 * l' + k' = 240 + 60 * l + k
            · rw [e, upS_eq]; omega
            · rw [at0 _ (by omega) (by omega) e]; exact (hw.2.2.2.2.1 l' hl' k' hk').2.1
        · have sb := hQ1.v.2.2.2.2.2.2.2
          have hV := CV.cash (v := S (1200 + o) - p) ho hQ1.v ht.2.2 (sb.up hQ1.2.2.2.2.1 (by omega))
          obtain ⟨N3, eN3, hV3, k3⟩ := w_pay (g := j + 1) (p := p) hV ht.2.2 v5 (by omega)
          rw [pk_sub (by omega), Nat.add_sub_cancel] at eN3
          have hV4 := CV.own (v := o + 1) hl hk hV3 ht.2.2 (hV3.2.2.2.2.2.2.2.up hQ1.2.2.2.2.1 (by omega))
          rw [nI_pred] at hV4
          have sc1 := hQ1.2.2.2.2.2.2.1.2.1 o ho
          refine ⟨sI N3 (B + 15 + 7) (60 * l + k) (nI o), ?_, k3.1, fun b q1 q2 => ?_, hV4.2.2.2.2.2.2.1⟩
          · simp (disch := omega) only [f_X7_sell, reduceIte, ↓reduceIte, ↓ck_i, ↓nm_s, ↓bR_i, ↓bd_i, Option.isSome_some, Option.getD_some, gK, gR, gN, gIs, inb_nI, and_self, nI_clamp, fa_lit, pk_mul, nI_add, n10, n1z, n00, eq_self, not_true_eq_false, not_false_eq_true, hQ.1, hQ.2.2.2.1, pb, ph, nI_ltI, nI_leI, b1, b2, p_spotOf, s6, s7, hs, pk_sub, Nat.add_sub_cancel, nj, nI_eq, hjo, sc, hca, eN1, hQ1.1, hQ1.2.2.2.1, sc1, hV.1, hV.2.2.2.1, eN3, hV3.1, hV3.2.2.2.1]
          · rw [sI_ne (by omega), k3.2 b q1, sI_ne (by omega)]
        · have hR3 := hRN.th (j := 0) (v := nI 0)
          have qb3 := q_isBond_y hR3 hl hk
          have qh3 := q_isHolder_y hR3 ho
          have r63 := hR3.2.2.1 (60 * l + k) (by omega)
          have r73 := hR3.2.2.1 (240 + 60 * l + k) (by omega)
          rw [hj] at r73
          have rc3 := hR3.2.2.1 (1200 + o) (by omega)
          have rcp := hRP.2.2.1 (1200 + o) (by omega)
          have sb := hRP.v.2.2.2.2
          have hV := RV.s (j := 1200 + o) (v := S (1200 + o) - p) hRP.v (sb.up hRP.2.2.2.1 (by omega))
          obtain ⟨P3, eP3, hV3, k3⟩ := v_pay (g := j + 1) (p := p) hV v5 (by omega)
          rw [pk_sub (by omega), Nat.add_sub_cancel] at eP3
          have hV4 := RV.s (j := 240 + 60 * l + k) (v := o + 1) hV3 (hV3.2.2.2.2.up hRP.2.2.2.1 (by omega))
          refine ⟨sI P3 (B + 63) (240 + 60 * l + k) (nI (o + 1)), ?_, k3.1, fun b _ q2 _ _ => by rw [sI_ne q2, k3.2 b q2, sI_ne q2], ⟨by rw [sI_ne (by omega), k3.2 _ (by omega), sI_ne (by omega)], by rw [sI_ne (by omega), k3.2 _ (by omega), sI_ne (by omega)]⟩, hV4.2.2.1⟩
          simp (disch := omega) only [f_X8_sell, reduceIte, ↓reduceIte, ↓ck_i, ↓nm_s, ↓bR_i, ↓bd_i, Option.isSome_some, Option.getD_some, gK, gR, gN, gIs, inb_nI, and_self, nI_clamp, fa_lit, pk_mul, nI_add, n10, n1z, n00, eq_self, not_true_eq_false, not_false_eq_true, hRN.1, hR3.1, qb3, qh3, fa_litL, iw, p_bondAt, a7, r73, Nat.zero_add, r63, hs, pk_sub, Nat.add_sub_cancel, nI_ltI, nj0, nI_eq, hjo, rc3, nI_leI, hca, eP1, hRP.1, rcp, hV.1, eP3, hV3.1]
      · exact Or.inl (no (e1 := by simp (disch := omega) only [f_X7_sell, reduceIte, ↓reduceIte, ↓ck_i, ↓nm_s, ↓bR_i, ↓bd_i, Option.isSome_some, Option.getD_some, gK, gR, gN, gIs, inb_nI, and_self, nI_clamp, fa_lit, pk_mul, nI_add, n10, n1z, n00, eq_self, not_true_eq_false, not_false_eq_true, hQ.1, hQ.2.2.2.1, pb, ph, nI_ltI, nI_leI, b1, b2, p_spotOf, s6, s7, hs, pk_sub, Nat.add_sub_cancel, nj, nI_eq, hjo, sc, hca]) (e2 := by simp (disch := omega) only [f_X8_sell, reduceIte, ↓reduceIte, ↓ck_i, ↓nm_s, ↓bR_i, ↓bd_i, Option.isSome_some, Option.getD_some, gK, gR, gN, gIs, inb_nI, and_self, nI_clamp, fa_lit, pk_mul, nI_add, n10, n1z, n00, eq_self, not_true_eq_false, not_false_eq_true, hR.1, hR2.1, qb, qh, fa_litL, iw, p_bondAt, a7, r7, Nat.zero_add, r6, hs, pk_sub, Nat.add_sub_cancel, nI_ltI, nj0, nI_eq, hjo, rc, nI_leI, hca]))
  · exact Or.inl (no (e1 := by simp (disch := omega) only [f_X7_sell, reduceIte, ↓reduceIte, ↓ck_i, ↓nm_s, ↓bR_i, ↓bd_i, Option.isSome_some, Option.getD_some, gK, gR, gN, gIs, inb_nI, and_self, nI_clamp, fa_lit, pk_mul, nI_add, n10, n1z, n00, eq_self, not_true_eq_false, not_false_eq_true, hQ.1, hQ.2.2.2.1, pb, ph, nI_ltI, nI_leI, b1, b2, p_spotOf, s6, s7, nI_eq, hs]) (e2 := by simp (disch := omega) only [f_X8_sell, reduceIte, ↓reduceIte, ↓ck_i, ↓nm_s, ↓bR_i, ↓bd_i, Option.isSome_some, Option.getD_some, gK, gR, gN, gIs, inb_nI, and_self, nI_clamp, fa_lit, pk_mul, nI_add, n10, n1z, n00, eq_self, not_true_eq_false, not_false_eq_true, hR.1, hR2.1, qb, qh, fa_litL, iw, p_bondAt, a7, r7, Nat.zero_add, r6, nI_eq, hs]))
end SELL
