section DEEDS
variable {B t c l : Nat} {T S S2 : Nat → Nat} {M N P : Mm} {x y z u : Int32}
theorem g0 : ∀ N : Mm, (sI N (B + 59) 0 (nI 0)).2 = N.2 ∧ (∀ a, a ≠ B + 59 → (sI N (B + 59) 0 (nI 0)).1 a = N.1 a) ∧ ∀ j, j ≠ 0 → (sI N (B + 59) 0 (nI 0)).1 (B + 59) j = N.1 (B + 59) j := fun N => ⟨rfl, fun a ha => sI_ne ha, fun j hj => sI_oth hj⟩
theorem RW.up {n j v : Nat} {f : Nat → Int32} (h : RW n f S) {F : Nat → Int32} (hF : ∀ k, k < n → F k = if k = j then nI v else f k) : RW n F (upS S j v) := fun k hk => by
  rw [hF k hk]
  unfold upS
  by_cases e : k = j
  · rw [if_pos e, if_pos e]
  · rw [if_neg e, if_neg e]; exact h k hk
theorem RW.s {j v a : Nat} (h : RW 1407 (M.1 a) S) : RW 1407 ((sI M a j (nI v)).1 a) (upS S j v) := h.up (fun k _ => by
  show (if a = a ∧ k = j then _ else _) = _
  by_cases e : k = j
  · rw [if_pos ⟨rfl, e⟩, if_pos e]
  · rw [if_neg (fun q => e q.2), if_neg e])
theorem prS_cong {y : Nat} (h : S2 (1215 + 21 * l + y) = S (1215 + 21 * l + y)) : prS T S2 l y = prS T S l y := by unfold prS; rw [h]
/-- the state's cells when one of them is written -/
theorem CS.up {a j i : Nat} {v : Int32} (h : CS M.1 a T S) (hW : TW T)
    (e0 : S2 1206 = S 1206) (hj : 1 ≤ j ∧ j ≤ 9)
    (e1 : ∀ h, h < T 1 → (if j = 1 ∧ h = i then v else nI (S (1200 + h))) = nI (S2 (1200 + h)))
    (e2 : ∀ l, l < T 0 → (if j = 2 ∧ l = i then v else nI (S (1207 + l))) = nI (S2 (1207 + l)) ∧ (if j = 3 ∧ l = i then v else nI (S (1211 + l))) = nI (S2 (1211 + l)))
    (e3 : ∀ l, l < T 0 → ∀ y, 1 ≤ y → y ≤ T (12 + 7 * l + 3) → (if j = 4 ∧ 21 * l + y = i then v else nI (prS T S l y)) = nI (prS T S2 l y) ∧ (if j = 5 ∧ 21 * l + y = i then v else nI (S (1299 + 21 * l + y))) = nI (S2 (1299 + 21 * l + y)))
    (e4 : ∀ l, l < T 0 → ∀ k, k < T (12 + 7 * l) → (if j = 6 ∧ 60 * l + k = i then v else nI (S (60 * l + k))) = nI (S2 (60 * l + k)) ∧ (if j = 7 ∧ 60 * l + k = i then v else nI (S (240 + 60 * l + k)) - 1) = nI (S2 (240 + 60 * l + k)) - 1 ∧ (if j = 8 ∧ 60 * l + k = i then v else nI (S (480 + 60 * l + k))) = nI (S2 (480 + 60 * l + k)) ∧ (if j = 9 ∧ 60 * l + k = i then v else nI (S (720 + 60 * l + k))) = nI (S2 (720 + 60 * l + k))) : CS (sI M (a + j) i v).1 a T S2 := by
  obtain ⟨h1, h2, h3, h4, h5⟩ := h
  have rd : ∀ q k, (sI M (a + j) i v).1 (a + q) k = if j = q ∧ k = i then v else M.1 (a + q) k := fun q k => by
    show (if a + q = a + j ∧ k = i then v else M.1 (a + q) k) = _
    by_cases e : j = q
    · subst e
      by_cases e2 : k = i
      · rw [if_pos ⟨rfl, e2⟩, if_pos ⟨rfl, e2⟩]
      · rw [if_neg (fun q => e2 q.2), if_neg (fun q => e2 q.2)]
    · rw [if_neg (by omega), if_neg (fun q => e q.1)]
  refine ⟨?_, fun h hh => ?_, fun l hl => ?_, fun l hl y y1 y2 => ?_, fun l hl k hk => ?_⟩
  · rw [sI_ne (by omega), h1, e0]
  · rw [rd, h2 h hh]; exact e1 h hh
  · rw [rd, rd, (h3 l hl).1, (h3 l hl).2]; exact e2 l hl
  · rw [rd, rd, (h4 l hl y y1 y2).1, (h4 l hl y y1 y2).2]; exact e3 l hl y y1 y2
  · have q := h5 l hl k hk
    rw [rd, rd, rd, rd, q.1, q.2.1, q.2.2.1, q.2.2.2]; exact e4 l hl k hk
theorem no_if {α : Type} {c : Prop} [Decidable c] {v w : α} (h : ¬ c) : (if c then v else w) = w := if_neg h
theorem pr_wheel (hcc : c + 1 ≤ 600) : Pr B c (f_X7_wheel B x y) (f_X8_wheel (B + 59) x y) := by
  refine pr_d hcc (fun N => sI N (B + 59) 0 (nI 0)) g0 (fun M t T S hQ hR ht => ?_)
  have w0 := hR.2.2.2.1.1
  have w1 := hR.2.2.2.1.2.1
  have hR2 := hR.th (j := 0) (v := nI 0)
  rcases ixL x (n := T 0) (by omega) with h | ⟨l, hl, rfl⟩
  · exact Or.inl ⟨-nI 1, sI M (B + 59) 0 (nI 0), by simp (disch := omega) only [f_X7_wheel, reduceIte, ↓reduceIte, ↓ck_i, ↓nm_s, ↓bR_i, ↓bd_i, Option.isSome_some, Option.getD_some, gK, gR, gN, gIs, inb_nI, and_self, nI_clamp, fa_lit, pk_mul, nI_add, n10, n1z, n00, eq_self, not_true_eq_false, not_false_eq_true, hQ.1, p_isLoan_n hQ h], by simp (disch := omega) only [f_X8_wheel, reduceIte, ↓reduceIte, ↓ck_i, ↓nm_s, ↓bR_i, ↓bd_i, Option.isSome_some, Option.getD_some, gK, gR, gN, gIs, inb_nI, and_self, nI_clamp, fa_lit, pk_mul, nI_add, n10, n1z, n00, eq_self, not_true_eq_false, not_false_eq_true, hR.1, hR2.1, q_isLoan_n hR2 h], KR.th (by omega) (by omega), rfl⟩
  rcases ixN y (n := 2147483646) (by omega) with h | ⟨k, hk, rfl⟩
  · have iw : f_X8_isWheel y (sI M (B + 59) 0 (nI 0)) = some (nI 0, sI M (B + 59) 0 (nI 0)) := by
      simp (disch := omega) only [f_X8_isWheel, reduceIte, ↓reduceIte, ↓ck_i, ↓nm_s, ↓bR_i, ↓bd_i, Option.isSome_some, Option.getD_some, gK, gR, gN, gIs, inb_nI, and_self, nI_clamp, fa_lit, pk_mul, nI_add, n10, n1z, n00, eq_self, not_true_eq_false, not_false_eq_true, true_or, or_true, fa_litL, wi1_n (n := 2147483646) (by omega) h]
    rcases h with h | ⟨h1, h2⟩
    · exact Or.inl ⟨-nI 1, sI M (B + 59) 0 (nI 0), by simp (disch := omega) only [f_X7_wheel, reduceIte, ↓reduceIte, ↓ck_i, ↓nm_s, ↓bR_i, ↓bd_i, Option.isSome_some, Option.getD_some, gK, gR, gN, gIs, inb_nI, and_self, nI_clamp, fa_lit, pk_mul, nI_add, n10, n1z, n00, eq_self, not_true_eq_false, not_false_eq_true, hQ.1, p_isLoan_y hQ hl, h], by simp (disch := omega) only [f_X8_wheel, reduceIte, ↓reduceIte, ↓ck_i, ↓nm_s, ↓bR_i, ↓bd_i, Option.isSome_some, Option.getD_some, gK, gR, gN, gIs, inb_nI, and_self, nI_clamp, fa_lit, pk_mul, nI_add, n10, n1z, n00, eq_self, not_true_eq_false, not_false_eq_true, hR.1, hR2.1, q_isLoan_y hR2 hl, iw], KR.th (by omega) (by omega), rfl⟩
    · have h3 : ¬ y ≤ nI 2147483646 := by
        rw [fa_le]; rw [fa_lt] at h2; omega
      exact Or.inl ⟨-nI 1, sI M (B + 59) 0 (nI 0), by simp (disch := omega) only [f_X7_wheel, reduceIte, ↓reduceIte, ↓ck_i, ↓nm_s, ↓bR_i, ↓bd_i, Option.isSome_some, Option.getD_some, gK, gR, gN, gIs, inb_nI, and_self, nI_clamp, fa_lit, pk_mul, nI_add, n10, n1z, n00, eq_self, not_true_eq_false, not_false_eq_true, hQ.1, p_isLoan_y hQ hl, h1, h3], by simp (disch := omega) only [f_X8_wheel, reduceIte, ↓reduceIte, ↓ck_i, ↓nm_s, ↓bR_i, ↓bd_i, Option.isSome_some, Option.getD_some, gK, gR, gN, gIs, inb_nI, and_self, nI_clamp, fa_lit, pk_mul, nI_add, n10, n1z, n00, eq_self, not_true_eq_false, not_false_eq_true, hR.1, hR2.1, q_isLoan_y hR2 hl, iw], KR.th (by omega) (by omega), rfl⟩
  · have b1 : ¬ k + 1 < 1 := by omega
    have b2 : k + 1 ≤ 2147483646 := by omega
    refine Or.inr ⟨nI (S (1207 + l)), upS S (1207 + l) (k + 1), ?_, fun N1 eN1 hQ1 => ?_, fun N P1 hRN eP1 hRP => ?_⟩
    · have hw := hQ.2.2.2.2.2.2.2.1
      refine hw.deed (upS_ne (by omega)) (fun h hh => by rw [upS_ne (by omega)]; exact hw.2.1 h hh) (fun l' hl' => ?_) (fun l' hl' y y1 y2 => ?_) (fun l' hl' k' hk' => ?_) (fun l' hl' w hw => upS_ne (by omega))
      · have := hw.2.2.1 l' hl'
        rw [upS_ne (by omega) (k := 1211 + l')]
        by_cases e : l' = l
        · rw [e, upS_eq]; rw [e] at this; omega
        · rw [upS_ne (by omega)]; omega
      · rw [upS_ne (by omega), upS_ne (by omega)]
        exact ⟨(hw.2.2.2.1 l' hl' y y1 y2).1, fun _ => rfl, rfl⟩
      · have w := hR.2.2.2.1.2.2 l' hl'
        rw [upS_ne (by omega), upS_ne (by omega), upS_ne (by omega), upS_ne (by omega), upS_ne (by omega)]
        exact ⟨rfl, (hw.2.2.2.2.1 l' hl' k' hk').2.1, rfl, rfl, rfl⟩
    · have s2 := (hQ1.2.2.2.2.2.2.1.2.2.1 l hl).1
      refine ⟨sI N1 (B + 15 + 2) l (nI (k + 1)), ?_, rfl, fun b _ _ => sI_ne (by omega), ?_⟩
      · simp (disch := omega) only [f_X7_wheel, reduceIte, ↓reduceIte, ↓ck_i, ↓nm_s, ↓bR_i, ↓bd_i, Option.isSome_some, Option.getD_some, gK, gR, gN, gIs, inb_nI, and_self, nI_clamp, fa_lit, pk_mul, nI_add, n10, n1z, n00, eq_self, not_true_eq_false, not_false_eq_true, hQ.1, p_isLoan_y hQ hl, nI_ltI, nI_leI, b1, b2, eN1, hQ1.1, hQ1.2.2.2.1, s2]
      · refine hQ1.2.2.2.2.2.2.1.up hQ.2.2.2.2.1 (upS_ne (by omega)) (by omega) (fun h hh => ?_) (fun l' hl' => ?_) (fun l' hl' y y1 y2 => ?_) (fun l' hl' k' hk' => ?_)
        · rw [no_if (by omega), upS_ne (by omega)]
        · rw [no_if (c := 2 = 3 ∧ l' = l) (by omega), upS_ne (by omega) (k := 1211 + l')]
          by_cases e : l' = l
          · rw [if_pos ⟨rfl, e⟩, e, upS_eq]; exact ⟨rfl, rfl⟩
          · rw [no_if (by omega), upS_ne (by omega)]; exact ⟨rfl, rfl⟩
        · rw [no_if (by omega), no_if (by omega), prS_cong (upS_ne (by omega)), upS_ne (by omega)]; exact ⟨rfl, rfl⟩
        · have w := hR.2.2.2.1.2.2 l' hl'
          rw [no_if (by omega), no_if (by omega), no_if (by omega), no_if (by omega), upS_ne (by omega), upS_ne (by omega), upS_ne (by omega), upS_ne (by omega)]; exact ⟨rfl, rfl, rfl, rfl⟩
    · have hR3 := hRN.th (j := 0) (v := nI 0)
      have r2 := hRP.2.2.1 (1207 + l) (by omega)
      have iw : f_X8_isWheel (nI (k + 1)) (sI N (B + 59) 0 (nI 0)) = some (nI 1, sI N (B + 59) 0 (nI 0)) := by
        simp (disch := omega) only [f_X8_isWheel, reduceIte, ↓reduceIte, ↓ck_i, ↓nm_s, ↓bR_i, ↓bd_i, Option.isSome_some, Option.getD_some, gK, gR, gN, gIs, inb_nI, and_self, nI_clamp, fa_lit, pk_mul, nI_add, n10, n1z, n00, eq_self, not_true_eq_false, not_false_eq_true, true_or, or_true, fa_litL, wi1_y (n := 2147483646)]
      refine ⟨sI P1 (B + 63) (1207 + l) (nI (k + 1)), ?_, rfl, fun b _ h _ _ => sI_ne h, ⟨by rw [sI_ne (by omega)], by rw [sI_ne (by omega)]⟩, hRP.2.2.1.s⟩
      simp (disch := omega) only [f_X8_wheel, reduceIte, ↓reduceIte, ↓ck_i, ↓nm_s, ↓bR_i, ↓bd_i, Option.isSome_some, Option.getD_some, gK, gR, gN, gIs, inb_nI, and_self, nI_clamp, fa_lit, pk_mul, nI_add, n10, n1z, n00, eq_self, not_true_eq_false, not_false_eq_true, hRN.1, hR3.1, hRP.1, q_isLoan_y hR3 hl, iw, eP1, r2]
theorem pr_put (hcc : c + 1 ≤ 600) : Pr B c (f_X7_put B x y) (f_X8_put (B + 59) x y) := by
  refine pr_d hcc (fun N => sI N (B + 59) 0 (nI 0)) g0 (fun M t T S hQ hR ht => ?_)
  have w0 := hR.2.2.2.1.1
  have w1 := hR.2.2.2.1.2.1
  have hR2 := hR.th (j := 0) (v := nI 0)
  have y60 := hR.2.2.2.2.1.1
  rcases ixL x (n := T 0) (by omega) with h | ⟨l, hl, rfl⟩
  · exact Or.inl ⟨-nI 1, sI M (B + 59) 0 (nI 0), by simp (disch := omega) only [f_X7_put, reduceIte, ↓reduceIte, ↓ck_i, ↓nm_s, ↓bR_i, ↓bd_i, Option.isSome_some, Option.getD_some, gK, gR, gN, gIs, inb_nI, and_self, nI_clamp, fa_lit, pk_mul, nI_add, n10, n1z, n00, eq_self, not_true_eq_false, not_false_eq_true, hQ.1, p_isLoan_n hQ h], by simp (disch := omega) only [f_X8_put, reduceIte, ↓reduceIte, ↓ck_i, ↓nm_s, ↓bR_i, ↓bd_i, Option.isSome_some, Option.getD_some, gK, gR, gN, gIs, inb_nI, and_self, nI_clamp, fa_lit, pk_mul, nI_add, n10, n1z, n00, eq_self, not_true_eq_false, not_false_eq_true, hR.1, hR2.1, q_isLoan_n hR2 h], KR.th (by omega) (by omega), rfl⟩
  have wl := hR.2.2.2.1.2.2 l hl
  have w20 := wl.2.2.2.2.2.2.1
  have wpl := wl.2.2.2.2.2.2.2.1
  clear wl
  rcases ixN y (n := 99999) (by omega) with h | ⟨k, hk, rfl⟩
  · have iw := wi1_n (M := sI M (B + 59) 0 (nI 0)) (n := 99999) (by omega) h
    rcases h with h | ⟨h1, h2⟩
    · exact Or.inl ⟨-nI 1, sI M (B + 59) 0 (nI 0), by simp (disch := omega) only [f_X7_put, reduceIte, ↓reduceIte, ↓ck_i, ↓nm_s, ↓bR_i, ↓bd_i, Option.isSome_some, Option.getD_some, gK, gR, gN, gIs, inb_nI, and_self, nI_clamp, fa_lit, pk_mul, nI_add, n10, n1z, n00, eq_self, not_true_eq_false, not_false_eq_true, hQ.1, p_isLoan_y hQ hl, h], by simp (disch := omega) only [f_X8_put, reduceIte, ↓reduceIte, ↓ck_i, ↓nm_s, ↓bR_i, ↓bd_i, Option.isSome_some, Option.getD_some, gK, gR, gN, gIs, inb_nI, and_self, nI_clamp, fa_lit, pk_mul, nI_add, n10, n1z, n00, eq_self, not_true_eq_false, not_false_eq_true, hR.1, hR2.1, q_isLoan_y hR2 hl, fa_litL, iw], KR.th (by omega) (by omega), rfl⟩
    · exact Or.inl ⟨-nI 1, sI M (B + 59) 0 (nI 0), by simp (disch := omega) only [f_X7_put, reduceIte, ↓reduceIte, ↓ck_i, ↓nm_s, ↓bR_i, ↓bd_i, Option.isSome_some, Option.getD_some, gK, gR, gN, gIs, inb_nI, and_self, nI_clamp, fa_lit, pk_mul, nI_add, n10, n1z, n00, eq_self, not_true_eq_false, not_false_eq_true, hQ.1, p_isLoan_y hQ hl, h1, h2], by simp (disch := omega) only [f_X8_put, reduceIte, ↓reduceIte, ↓ck_i, ↓nm_s, ↓bR_i, ↓bd_i, Option.isSome_some, Option.getD_some, gK, gR, gN, gIs, inb_nI, and_self, nI_clamp, fa_lit, pk_mul, nI_add, n10, n1z, n00, eq_self, not_true_eq_false, not_false_eq_true, hR.1, hR2.1, q_isLoan_y hR2 hl, fa_litL, iw], KR.th (by omega) (by omega), rfl⟩
  have b1 : ¬ k + 1 < 1 := by omega
  have b2 : ¬ 99999 < k + 1 := by omega
  have c6 := (hQ.2.2.2.2.2.1.2.2.1 l hl).2.2.2.2.1
  have iw : ∀ M : Mm, f_X8_within (nI (k + 1)).toInt64 (lN 1) (lN 99999) M = some (nI 1, M) := fun M => wi1_y (by omega) (by omega)
  by_cases hpl : T (12 + 7 * l + 4) = 1
  · have io := p_isOver hQ hl
    by_cases hy : S 1206 < T (12 + 7 * l + 3)
    · rw [if_pos hy] at io
      have fb := (hR.2.2.2.2.1.2.2.1 l hl).2.2
      have fb2 : 99999 * c ≤ 99999 * 600 := Nat.mul_le_mul_left _ (by omega)
      refine Or.inr ⟨nI (S (1211 + l) + (k + 1)), upS S (1211 + l) (S (1211 + l) + (k + 1)), ?_, fun N1 eN1 hQ1 => ?_, fun N P1 hRN eP1 hRP => ?_⟩
      · have hw := hQ.2.2.2.2.2.2.2.1
        refine hw.deed (upS_ne (by omega)) (fun h hh => by rw [upS_ne (by omega)]; exact hw.2.1 h hh) (fun l' hl' => ?_) (fun l' hl' y y1 y2 => ?_) (fun l' hl' k' hk' => ?_) (fun l' hl' w hw => upS_ne (by omega))
        · have := hw.2.2.1 l' hl'
          rw [upS_ne (by omega) (k := 1207 + l')]
          by_cases e : l' = l
          · rw [e, upS_eq]; rw [e] at this; omega
          · rw [upS_ne (by omega)]; omega
        · rw [upS_ne (by omega), upS_ne (by omega)]
          exact ⟨(hw.2.2.2.1 l' hl' y y1 y2).1, fun _ => rfl, rfl⟩
        · have w := hR.2.2.2.1.2.2 l' hl'
          rw [upS_ne (by omega), upS_ne (by omega), upS_ne (by omega), upS_ne (by omega), upS_ne (by omega)]
          exact ⟨rfl, (hw.2.2.2.2.1 l' hl' k' hk').2.1, rfl, rfl, rfl⟩
      · have s2 := (hQ1.2.2.2.2.2.2.1.2.2.1 l hl).2
        refine ⟨sI N1 (B + 15 + 3) l (nI (S (1211 + l) + (k + 1))), ?_, rfl, fun b _ _ => sI_ne (by omega), ?_⟩
        · have e1 : (nI 1 = nI 1) = True := by decide
          simp (disch := omega) only [f_X7_put, reduceIte, ↓reduceIte, ↓ck_i, ↓nm_s, ↓bR_i, ↓bd_i, Option.isSome_some, Option.getD_some, gK, gR, gN, gIs, inb_nI, and_self, nI_clamp, fa_lit, pk_mul, nI_add, n10, n1z, n00, eq_self, not_true_eq_false, not_false_eq_true, hQ.1, hQ.2.1, hQ.2.2.1, p_isLoan_y hQ hl, nI_ltI, nI_leI, b1, b2, c6, hpl, e1, io, eN1, hQ1.1, hQ1.2.2.2.1, s2, sI_sh, sI_hit]
        · refine hQ1.2.2.2.2.2.2.1.up hQ.2.2.2.2.1 (upS_ne (by omega)) (by omega) (fun h hh => ?_) (fun l' hl' => ?_) (fun l' hl' y y1 y2 => ?_) (fun l' hl' k' hk' => ?_)
          · rw [no_if (by omega), upS_ne (by omega)]
          · rw [no_if (c := 3 = 2 ∧ l' = l) (by omega), upS_ne (by omega) (k := 1207 + l')]
            by_cases e : l' = l
            · rw [if_pos ⟨rfl, e⟩, e, upS_eq]; exact ⟨rfl, rfl⟩
            · rw [no_if (by omega), upS_ne (by omega)]; exact ⟨rfl, rfl⟩
          · rw [no_if (by omega), no_if (by omega), prS_cong (upS_ne (by omega)), upS_ne (by omega)]; exact ⟨rfl, rfl⟩
          · have w := hR.2.2.2.1.2.2 l' hl'
            rw [no_if (by omega), no_if (by omega), no_if (by omega), no_if (by omega), upS_ne (by omega), upS_ne (by omega), upS_ne (by omega), upS_ne (by omega)]; exact ⟨rfl, rfl, rfl, rfl⟩
      · have hR3 := hRN.th (j := 0) (v := nI 0)
        have r2 := hRP.2.2.1 (1211 + l) (by omega)
        have r6 := hR3.2.2.1 1206 (by omega)
        have l4 := q_loanOf hR3 hl (w := 4) (by omega)
        have l3 := q_loanOf hR3 hl (w := 3) (by omega)
        refine ⟨sI P1 (B + 63) (1211 + l) (nI (S (1211 + l) + (k + 1))), ?_, rfl, fun b _ h _ _ => sI_ne h, ⟨by rw [sI_ne (by omega)], by rw [sI_ne (by omega)]⟩, hRP.2.2.1.s⟩
        have e1 : (nI 1 = nI 1) = True := by decide
        simp (disch := omega) only [f_X8_put, reduceIte, ↓reduceIte, ↓ck_i, ↓nm_s, ↓bR_i, ↓bd_i, Option.isSome_some, Option.getD_some, gK, gR, gN, gIs, inb_nI, and_self, nI_clamp, fa_lit, pk_mul, nI_add, n10, n1z, n00, eq_self, not_true_eq_false, not_false_eq_true, hRN.1, hR3.1, hRP.1, q_isLoan_y hR3 hl, fa_litL, iw, l4, l3, hpl, e1, r6, nI_ltI, hy, eP1, r2, sI_sh, sI_hit]
    · rw [if_neg hy] at io
      have r6 := hR2.2.2.1 1206 (by omega)
      have l4 := q_loanOf hR2 hl (w := 4) (by omega)
      have l3 := q_loanOf hR2 hl (w := 3) (by omega)
      have e1 : (nI 1 = nI 1) = True := by decide
      exact Or.inl ⟨-nI 1, sI M (B + 59) 0 (nI 0), by simp (disch := omega) only [f_X7_put, reduceIte, ↓reduceIte, ↓ck_i, ↓nm_s, ↓bR_i, ↓bd_i, Option.isSome_some, Option.getD_some, gK, gR, gN, gIs, inb_nI, and_self, nI_clamp, fa_lit, pk_mul, nI_add, n10, n1z, n00, eq_self, not_true_eq_false, not_false_eq_true, hQ.1, hQ.2.1, hQ.2.2.1, p_isLoan_y hQ hl, nI_ltI, nI_leI, b1, b2, c6, hpl, e1, io], by simp (disch := omega) only [f_X8_put, reduceIte, ↓reduceIte, ↓ck_i, ↓nm_s, ↓bR_i, ↓bd_i, Option.isSome_some, Option.getD_some, gK, gR, gN, gIs, inb_nI, and_self, nI_clamp, fa_lit, pk_mul, nI_add, n10, n1z, n00, eq_self, not_true_eq_false, not_false_eq_true, hR.1, hR2.1, q_isLoan_y hR2 hl, fa_litL, iw, l4, l3, hpl, e1, r6, nI_ltI, hy], KR.th (by omega) (by omega), rfl⟩
  · have l4 := q_loanOf hR2 hl (w := 4) (by omega)
    exact Or.inl ⟨-nI 1, sI M (B + 59) 0 (nI 0), by simp (disch := omega) only [f_X7_put, reduceIte, ↓reduceIte, ↓ck_i, ↓nm_s, ↓bR_i, ↓bd_i, Option.isSome_some, Option.getD_some, gK, gR, gN, gIs, inb_nI, and_self, nI_clamp, fa_lit, pk_mul, nI_add, n10, n1z, n00, eq_self, not_true_eq_false, not_false_eq_true, hQ.1, hQ.2.1, hQ.2.2.1, p_isLoan_y hQ hl, nI_ltI, nI_leI, nI_eq, b1, b2, c6, hpl], by simp (disch := omega) only [f_X8_put, reduceIte, ↓reduceIte, ↓ck_i, ↓nm_s, ↓bR_i, ↓bd_i, Option.isSome_some, Option.getD_some, gK, gR, gN, gIs, inb_nI, and_self, nI_clamp, fa_lit, pk_mul, nI_add, n10, n1z, n00, eq_self, not_true_eq_false, not_false_eq_true, hR.1, hR2.1, q_isLoan_y hR2 hl, fa_litL, iw, l4, nI_eq, hpl], KR.th (by omega) (by omega), rfl⟩
theorem pr_priced (hcc : c + 1 ≤ 600) : Pr B c (f_X7_priced B x y z) (f_X8_priced (B + 59) x y z) := by
  refine pr_d hcc (fun N => sI N (B + 59) 0 (nI 0)) g0 (fun M t T S hQ hR ht => ?_)
  have w0 := hR.2.2.2.1.1
  have w1 := hR.2.2.2.1.2.1
  have hR2 := hR.th (j := 0) (v := nI 0)
  have y60 := hR.2.2.2.2.1.1
  rcases ixL x (n := T 0) (by omega) with h | ⟨l, hl, rfl⟩
  · exact Or.inl ⟨-nI 1, sI M (B + 59) 0 (nI 0), by simp (disch := omega) only [f_X7_priced, reduceIte, ↓reduceIte, ↓ck_i, ↓nm_s, ↓bR_i, ↓bd_i, Option.isSome_some, Option.getD_some, gK, gR, gN, gIs, inb_nI, and_self, nI_clamp, fa_lit, pk_mul, nI_add, n10, n1z, n00, eq_self, not_true_eq_false, not_false_eq_true, hQ.1, p_isToCome_0 hQ h], by simp (disch := omega) only [f_X8_priced, reduceIte, ↓reduceIte, ↓ck_i, ↓nm_s, ↓bR_i, ↓bd_i, Option.isSome_some, Option.getD_some, gK, gR, gN, gIs, inb_nI, and_self, nI_clamp, fa_lit, pk_mul, nI_add, n10, n1z, n00, eq_self, not_true_eq_false, not_false_eq_true, hR.1, hR2.1, q_isToCome_0 hR2 h], KR.th (by omega) (by omega), rfl⟩
  have w20 := (hR.2.2.2.1.2.2 l hl).2.2.2.2.2.2.1
  rcases ixN y (n := T (12 + 7 * l + 3)) (by omega) with h | ⟨k, hk, rfl⟩
  · exact Or.inl ⟨-nI 1, sI M (B + 59) 0 (nI 0), by simp (disch := omega) only [f_X7_priced, reduceIte, ↓reduceIte, ↓ck_i, ↓nm_s, ↓bR_i, ↓bd_i, Option.isSome_some, Option.getD_some, gK, gR, gN, gIs, inb_nI, and_self, nI_clamp, fa_lit, pk_mul, nI_add, n10, n1z, n00, eq_self, not_true_eq_false, not_false_eq_true, hQ.1, p_isToCome_n hQ hl h], by simp (disch := omega) only [f_X8_priced, reduceIte, ↓reduceIte, ↓ck_i, ↓nm_s, ↓bR_i, ↓bd_i, Option.isSome_some, Option.getD_some, gK, gR, gN, gIs, inb_nI, and_self, nI_clamp, fa_lit, pk_mul, nI_add, n10, n1z, n00, eq_self, not_true_eq_false, not_false_eq_true, hR.1, hR2.1, q_isToCome_n hR2 hl h], KR.th (by omega) (by omega), rfl⟩
  by_cases hy : k + 1 ≤ S 1206
  · exact Or.inl ⟨-nI 1, sI M (B + 59) 0 (nI 0), by simp (disch := omega) only [f_X7_priced, reduceIte, ↓reduceIte, ↓ck_i, ↓nm_s, ↓bR_i, ↓bd_i, Option.isSome_some, Option.getD_some, gK, gR, gN, gIs, inb_nI, and_self, nI_clamp, fa_lit, pk_mul, nI_add, n10, n1z, n00, eq_self, not_true_eq_false, not_false_eq_true, hQ.1, p_isToCome_m hQ hl hk hy], by simp (disch := omega) only [f_X8_priced, reduceIte, ↓reduceIte, ↓ck_i, ↓nm_s, ↓bR_i, ↓bd_i, Option.isSome_some, Option.getD_some, gK, gR, gN, gIs, inb_nI, and_self, nI_clamp, fa_lit, pk_mul, nI_add, n10, n1z, n00, eq_self, not_true_eq_false, not_false_eq_true, hR.1, hR2.1, q_isToCome_m hR2 hl hk hy], KR.th (by omega) (by omega), rfl⟩
  have hy : S 1206 < k + 1 := by omega
  rcases ixN z (n := 999) (by omega) with h | ⟨p, hp, rfl⟩
  · have iw := wi1_n (M := sI M (B + 59) 0 (nI 0)) (n := 999) (by omega) h
    rcases h with h | ⟨h1, h2⟩
    · exact Or.inl ⟨-nI 1, sI M (B + 59) 0 (nI 0), by simp (disch := omega) only [f_X7_priced, reduceIte, ↓reduceIte, ↓ck_i, ↓nm_s, ↓bR_i, ↓bd_i, Option.isSome_some, Option.getD_some, gK, gR, gN, gIs, inb_nI, and_self, nI_clamp, fa_lit, pk_mul, nI_add, n10, n1z, n00, eq_self, not_true_eq_false, not_false_eq_true, hQ.1, p_isToCome_y hQ hl hk hy, h], by simp (disch := omega) only [f_X8_priced, reduceIte, ↓reduceIte, ↓ck_i, ↓nm_s, ↓bR_i, ↓bd_i, Option.isSome_some, Option.getD_some, gK, gR, gN, gIs, inb_nI, and_self, nI_clamp, fa_lit, pk_mul, nI_add, n10, n1z, n00, eq_self, not_true_eq_false, not_false_eq_true, hR.1, hR2.1, q_isToCome_y hR2 hl hk hy, fa_litL, iw], KR.th (by omega) (by omega), rfl⟩
    · have h3 : ¬ z ≤ nI 999 := by
        rw [fa_le]; rw [fa_lt] at h2; omega
      exact Or.inl ⟨-nI 1, sI M (B + 59) 0 (nI 0), by simp (disch := omega) only [f_X7_priced, reduceIte, ↓reduceIte, ↓ck_i, ↓nm_s, ↓bR_i, ↓bd_i, Option.isSome_some, Option.getD_some, gK, gR, gN, gIs, inb_nI, and_self, nI_clamp, fa_lit, pk_mul, nI_add, n10, n1z, n00, eq_self, not_true_eq_false, not_false_eq_true, hQ.1, p_isToCome_y hQ hl hk hy, h1, h3], by simp (disch := omega) only [f_X8_priced, reduceIte, ↓reduceIte, ↓ck_i, ↓nm_s, ↓bR_i, ↓bd_i, Option.isSome_some, Option.getD_some, gK, gR, gN, gIs, inb_nI, and_self, nI_clamp, fa_lit, pk_mul, nI_add, n10, n1z, n00, eq_self, not_true_eq_false, not_false_eq_true, hR.1, hR2.1, q_isToCome_y hR2 hl hk hy, fa_litL, iw], KR.th (by omega) (by omega), rfl⟩
  have b1 : ¬ p + 1 < 1 := by omega
  have b2 : p + 1 ≤ 999 := by omega
  refine Or.inr ⟨nI (prS T S l (k + 1)), upS S (1215 + 21 * l + (k + 1)) (p + 1), ?_, fun N1 eN1 hQ1 => ?_, fun N P1 hRN eP1 hRP => ?_⟩
  · have hw := hQ.2.2.2.2.2.2.2.1
    refine hw.deed (upS_ne (by omega)) (fun h hh => by rw [upS_ne (by omega)]; exact hw.2.1 h hh) (fun l' hl' => ?_) (fun l' hl' y y1 y2 => ?_) (fun l' hl' k' hk' => ?_) (fun l' hl' w hw => upS_ne (by omega))
    · have := hw.2.2.1 l' hl'
      rw [upS_ne (by omega), upS_ne (by omega)]
      exact ⟨this.1, this.2.1, by omega⟩
    · have w := (hR.2.2.2.1.2.2 l' hl').2.2.2.2.2.2.1
      have q := (hw.2.2.2.1 l' hl' y y1 y2).1
      rw [upS_ne (by omega) (k := 1299 + 21 * l' + y)]
      by_cases e : 1215 + 21 * l' + y = 1215 + 21 * l + (k + 1)
      · rw [e, upS_eq]
        exact ⟨by omega, fun h => by exfalso; omega, rfl⟩
      · rw [upS_ne e]
        exact ⟨q, fun _ => rfl, rfl⟩
    · have w := hR.2.2.2.1.2.2 l' hl'
      rw [upS_ne (by omega), upS_ne (by omega), upS_ne (by omega), upS_ne (by omega), upS_ne (by omega)]
      exact ⟨rfl, (hw.2.2.2.2.1 l' hl' k' hk').2.1, rfl, rfl, rfl⟩
  · have s2 := (hQ1.2.2.2.2.2.2.1.2.2.2.1 l hl (k + 1) (by omega) (by omega)).1
    refine ⟨sI N1 (B + 15 + 4) (21 * l + (k + 1)) (nI (p + 1)), ?_, rfl, fun b _ _ => sI_ne (by omega), ?_⟩
    · simp (disch := omega) only [f_X7_priced, reduceIte, ↓reduceIte, ↓ck_i, ↓nm_s, ↓bR_i, ↓bd_i, Option.isSome_some, Option.getD_some, gK, gR, gN, gIs, inb_nI, and_self, nI_clamp, fa_lit, pk_mul, nI_add, n10, n1z, n00, eq_self, not_true_eq_false, not_false_eq_true, hQ.1, p_isToCome_y hQ hl hk hy, nI_ltI, nI_leI, b1, b2, eN1, hQ1.1, hQ1.2.2.2.1, p_cellOf, s2]
    · refine hQ1.2.2.2.2.2.2.1.up hQ.2.2.2.2.1 (upS_ne (by omega)) (by omega) (fun h hh => ?_) (fun l' hl' => ?_) (fun l' hl' y y1 y2 => ?_) (fun l' hl' k' hk' => ?_)
      · rw [no_if (by omega), upS_ne (by omega)]
      · rw [no_if (by omega), no_if (by omega), upS_ne (by omega), upS_ne (by omega)]; exact ⟨rfl, rfl⟩
      · have w := (hR.2.2.2.1.2.2 l' hl').2.2.2.2.2.2.1
        rw [no_if (c := 4 = 5 ∧ 21 * l' + y = 21 * l + (k + 1)) (by omega), upS_ne (by omega) (k := 1299 + 21 * l' + y)]
        by_cases e : 21 * l' + y = 21 * l + (k + 1)
        · rw [if_pos ⟨rfl, e⟩]
          unfold prS
          rw [show 1215 + 21 * l' + y = 1215 + 21 * l + (k + 1) by omega, upS_eq, if_neg (by omega)]
          exact ⟨rfl, rfl⟩
        · rw [no_if (by omega), prS_cong (upS_ne (by omega))]; exact ⟨rfl, rfl⟩
      · have w := hR.2.2.2.1.2.2 l' hl'
        rw [no_if (by omega), no_if (by omega), no_if (by omega), no_if (by omega), upS_ne (by omega), upS_ne (by omega), upS_ne (by omega), upS_ne (by omega)]; exact ⟨rfl, rfl, rfl, rfl⟩
  · have hR3 := hRN.th (j := 0) (v := nI 0)
    have pf := q_priceOf hRP hl (k := k) hk
    refine ⟨sI P1 (B + 63) (1215 + 21 * l + (k + 1)) (nI (p + 1)), ?_, rfl, fun b _ h _ _ => sI_ne h, ⟨by rw [sI_ne (by omega)], by rw [sI_ne (by omega)]⟩, hRP.2.2.1.s⟩
    simp (disch := omega) only [f_X8_priced, reduceIte, ↓reduceIte, ↓ck_i, ↓nm_s, ↓bR_i, ↓bd_i, Option.isSome_some, Option.getD_some, gK, gR, gN, gIs, inb_nI, and_self, nI_clamp, fa_lit, pk_mul, nI_add, n10, n1z, n00, eq_self, not_true_eq_false, not_false_eq_true, hRN.1, hR3.1, hRP.1, q_isToCome_y hR3 hl hk hy, fa_litL, wi1_y (n := 999), eP1, pf]
end DEEDS
