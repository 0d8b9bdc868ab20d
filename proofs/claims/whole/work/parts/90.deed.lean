/-! deeds -/
def upS (S : Nat → Nat) (j v : Nat) : Nat → Nat := fun k => if k = j then v else S k
theorem upS_eq {S : Nat → Nat} {j v : Nat} : upS S j v j = v := if_pos rfl
theorem upS_ne {S : Nat → Nat} {j v k : Nat} (h : k ≠ j) : upS S j v k = S k := if_neg h
section KEEPS
variable {B t c fed nd nr : Nat} {T S tp im : Nat → Nat} {D G Dr : Nat → Nat → Nat} {M N P : Mm}
theorem q_keeps50 (hR : RQ B M T S c) (hY : RX B M fed tp nr Dr im G) (hn : nr < 12) : ∃ P, f_X8_keeps_50 (B + 59) M = some ((), P) ∧ RQ B P T S c ∧ RX B P fed tp (nr + 1) (D2 nr Dr S) im G ∧ P.2 = M.2 ∧ (∀ a, a ≠ B + 59 → a ≠ B + 65 → P.1 a = M.1 a) ∧ ∀ j, j ≠ 23 → P.1 (B + 59) j = M.1 (B + 59) j := by
  have y23 := hY.2.2.1
  have hD : RfD B M.2.2 := hR.1
  have cp := q_copies (s := B + 63) (d := B + 65) (o1 := 0) (o2 := 1407 * nr) (M := M) (ns := 1407) (nd := 16884) (by simp only [hR.1]) (by simp only [hR.1]) (by simp only [hR.1]) (by simp only [hR.1]) (by omega) (by omega) (by omega) (by omega) (by omega)
  have e5 : (cpM M (B + 63) (B + 65) 0 (1407 * nr) 1407).1 (B + 59) 23 = nI nr := by rw [cpM_o (by omega)]; exact y23
  have hC5 : (cpM M (B + 63) (B + 65) 0 (1407 * nr) 1407).2 = M.2 := rfl
  have ho : ∀ b, b ≠ B + 65 → (cpM M (B + 63) (B + 65) 0 (1407 * nr) 1407).1 b = M.1 b := fun b hb => cpM_o hb
  have hin : ∀ k, k < 1407 → (cpM M (B + 63) (B + 65) 0 (1407 * nr) 1407).1 (B + 65) (1407 * nr + k) = nI (S k) := fun k hk => by
    rw [cpM_in hk, Nat.zero_add]; exact hR.2.2.1 k hk
  have hout : ∀ k, k < 1407 * nr → (cpM M (B + 63) (B + 65) 0 (1407 * nr) 1407).1 (B + 65) k = M.1 (B + 65) k := fun k hk => cpM_out (Or.inl hk)
  generalize cpM M (B + 63) (B + 65) 0 (1407 * nr) 1407 = Q at *
  have hs : Q.2.2 = M.2.2 := by rw [hC5]
  refine ⟨sI Q (B + 59) 23 (nI (nr + 1)), ?_, ?_, ?_, hC5, fun a h1 h2 => by rw [sI_ne h1]; exact ho a h2, fun j hj => by rw [sI_oth hj, ho _ (by omega)]⟩
  · simp (disch := omega) only [f_X8_keeps_50, reduceIte, ↓reduceIte, ↓ck_i, ↓nm_s, ↓bR_i, ↓bd_i, Option.isSome_some, Option.getD_some, gK, gR, gN, gIs, inb_nI, and_self, nI_clamp, fa_lit, pk_mul, nI_add, n10, n1z, n00, eq_self, not_true_eq_false, not_false_eq_true, hD.a, hs, y23, cp, e5]
  · exact hR.keep hs (by rw [sI_ne (by omega), ho _ (by omega)]) (by rw [sI_ne (by omega), ho _ (by omega)])
  · obtain ⟨y1, y2, y3, y4, y5, y6⟩ := hY
    refine ⟨by rw [sI_oth (by omega), ho _ (by omega)]; exact y1, by rw [sI_ne (by omega), ho _ (by omega)]; exact y2, sI_hit, fun k hk j hj => ?_, by rw [sI_ne (by omega), ho _ (by omega)]; exact y5, by rw [sI_ne (by omega), ho _ (by omega)]; exact y6⟩
    rw [sI_ne (by omega)]
    unfold D2
    rw [if_pos hn]
    by_cases hkn : k = nr
    · subst hkn
      rw [if_pos rfl]
      exact hin j hj
    · rw [if_neg hkn, hout _ (by omega)]
      exact y4 k (by omega) j hj
def shM (B : Nat) (M : Mm) (k : Nat) : Mm := sC M (B + 65) (fun i => if i < k then M.1 (B + 65) (i + 1407) else M.1 (B + 65) i)
theorem shM_s {k : Nat} : sI (shM B M k) (B + 65) k (M.1 (B + 65) (k + 1407)) = shM B M (k + 1) := by
  show ((fun b j => if b = B + 65 ∧ j = k then M.1 (B + 65) (k + 1407) else if b = B + 65 then (if j < k then M.1 (B + 65) (j + 1407) else M.1 (B + 65) j) else M.1 b j), M.2) = ((fun b j => if b = B + 65 then (if j < k + 1 then M.1 (B + 65) (j + 1407) else M.1 (B + 65) j) else M.1 b j), M.2)
  congr 1
  funext b j
  by_cases hb : b = B + 65
  · rw [if_pos hb, if_pos hb]
    by_cases hj : j = k
    · rw [if_pos ⟨hb, hj⟩, if_pos (by omega), hj]
    · rw [if_neg (fun q => hj q.2)]
      by_cases h2 : j < k
      · rw [if_pos h2, if_pos (by omega)]
      · rw [if_neg h2, if_neg (by omega)]
  · rw [if_neg (fun q => hb q.1), if_neg hb, if_neg hb]
theorem shM_0 : shM B M 0 = M := by
  obtain ⟨I, R⟩ := M
  show ((fun b j => if b = B + 65 then (if j < 0 then I (B + 65) (j + 1407) else I (B + 65) j) else I b j), R) = (I, R)
  congr 1
  funext b j
  by_cases hb : b = B + 65
  · rw [if_pos hb, if_neg (by omega), hb]
  · rw [if_neg hb]
theorem q_shift (hD : RfD B M.2.2) (y23 : M.1 (B + 59) 23 = nI 12) : ∀ (e k n : Nat), k + e = 15477 → e < n → f_X8_keeps_11 n (B + 59) (nI k) (shM B M k) = f_X8_keeps_50 (B + 59) (sI (shM B M 15477) (B + 59) 23 (nI 11)) := by
  intro e
  induction e with
  | zero =>
    intro k n hk hn
    obtain ⟨n, rfl⟩ : ∃ m, n = m + 1 := ⟨n - 1, by omega⟩
    have hk : k = 15477 := by omega
    subst hk
    have h1 : (15477 : Nat) ≤ 15477 := Nat.le_refl _
    have h2 : (shM B M 15477).1 (B + 59) 23 = nI 12 := by
      show (sC M (B + 65) _).1 (B + 59) 23 = _
      rw [sC_ne (by omega)]; exact y23
    have hs : (shM B M 15477).2.2 = M.2.2 := rfl
    have h3 : nI 12 - nI 1 = nI 11 := by decide
    simp (disch := omega) only [f_X8_keeps_11, reduceIte, ↓reduceIte, ↓ck_i, ↓nm_s, ↓bR_i, ↓bd_i, Option.isSome_some, Option.getD_some, gK, gR, gN, gIs, inb_nI, and_self, nI_clamp, fa_lit, pk_mul, nI_add, n10, n1z, n00, eq_self, not_true_eq_false, not_false_eq_true, hD.a, hs, nI_leI, h1, h2, h3]
  | succ e ih =>
    intro k n hk hn
    obtain ⟨n, rfl⟩ : ∃ m, n = m + 1 := ⟨n - 1, by omega⟩
    have ih := ih (k + 1) n (by omega) (by omega)
    have h1 : ¬ (15477 : Nat) ≤ k := by omega
    have hs : (shM B M k).2.2 = M.2.2 := rfl
    have h2 : (shM B M k).1 (B + 65) (k + 1407) = M.1 (B + 65) (k + 1407) := by
      show (sC M (B + 65) _).1 (B + 65) _ = _
      rw [sC_hit, if_neg (by omega)]
    simp (disch := omega) only [f_X8_keeps_11, reduceIte, ↓reduceIte, ↓ck_i, ↓nm_s, ↓bR_i, ↓bd_i, Option.isSome_some, Option.getD_some, gK, gR, gN, gIs, inb_nI, and_self, nI_clamp, fa_lit, pk_mul, nI_add, n10, n1z, n00, eq_self, not_true_eq_false, not_false_eq_true, hD.a, hs, nI_leI, h1, h2, shM_s]
    exact ih
theorem q_keeps (hR : RQ B M T S c) (hY : RX B M fed tp nr Dr im G) (hn : nr ≤ 12) : ∃ P, f_X8_keeps (B + 59) M = some ((), P) ∧ RQ B P T S c ∧ RX B P fed tp (min (nr + 1) 12) (D2 nr Dr S) im G ∧ P.2 = M.2 ∧ (∀ a, a ≠ B + 59 → a ≠ B + 65 → P.1 a = M.1 a) ∧ ∀ j, j ≠ 23 → P.1 (B + 59) j = M.1 (B + 59) j := by
  have y23 := hY.2.2.1
  have hD : RfD B M.2.2 := hR.1
  by_cases h12 : nr < 12
  · obtain ⟨P, e, p1⟩ := q_keeps50 hR hY h12
    refine ⟨P, ?_, ?_⟩
    · rw [← e]
      have h1 : ¬ nr = 12 := by omega
      simp (disch := omega) only [f_X8_keeps, reduceIte, ↓reduceIte, ↓ck_i, ↓nm_s, ↓bR_i, ↓bd_i, Option.isSome_some, Option.getD_some, gK, gR, gN, gIs, inb_nI, and_self, nI_clamp, fa_lit, pk_mul, nI_add, n10, n1z, n00, eq_self, not_true_eq_false, not_false_eq_true, hD.a, y23, nI_eq, h1]
    · rw [show min (nr + 1) 12 = nr + 1 by omega]; exact p1
  · have h12 : nr = 12 := by omega
    subst h12
    have o1 : ∀ b, b ≠ B + 65 → (shM B M 15477).1 b = M.1 b := fun b hb => sC_ne hb
    have o2 : ∀ j, j < 15477 → (shM B M 15477).1 (B + 65) j = M.1 (B + 65) (j + 1407) := fun j hj => by
      show (sC M (B + 65) _).1 (B + 65) j = _
      rw [sC_hit, if_pos hj]
    have sh := q_shift hD y23 15477 0 FU (by omega) (by unfold FU; omega)
    rw [shM_0] at sh
    have hs : (shM B M 15477).2 = M.2 := rfl
    generalize shM B M 15477 = Q at *
    have hRQ : RQ B (sI Q (B + 59) 23 (nI 11)) T S c := hR.keep (by rw [sI_sh, hs]) (by rw [sI_ne (by omega), o1 _ (by omega)]) (by rw [sI_ne (by omega), o1 _ (by omega)])
    have hYQ : RX B (sI Q (B + 59) 23 (nI 11)) fed tp 11 (fun k => Dr (k + 1)) im G := by
      obtain ⟨y1, y2, y3, y4, y5, y6⟩ := hY
      refine ⟨by rw [sI_oth (by omega), o1 _ (by omega)]; exact y1, by rw [sI_ne (by omega), o1 _ (by omega)]; exact y2, sI_hit, fun k hk j hj => ?_, by rw [sI_ne (by omega), o1 _ (by omega)]; exact y5, by rw [sI_ne (by omega), o1 _ (by omega)]; exact y6⟩
      rw [sI_ne (by omega), o2 _ (by omega), show 1407 * k + j + 1407 = 1407 * (k + 1) + j by omega]
      exact y4 (k + 1) (by omega) j hj
    obtain ⟨P, e, p1, p2, p3, p4, p5⟩ := q_keeps50 hRQ hYQ (by omega)
    have ed : D2 11 (fun k => Dr (k + 1)) S = D2 12 Dr S := by
      funext k
      show (if 11 < 12 then (if k = 11 then S else Dr (k + 1)) else (if k = 11 then S else Dr (k + 1 + 1))) = (if 12 < 12 then (if k = 12 then S else Dr k) else (if k = 11 then S else Dr (k + 1)))
      rw [if_pos (show 11 < 12 by decide), if_neg (show ¬ 12 < 12 by decide)]
    rw [ed] at p2
    refine ⟨P, ?_, p1, p2, p3.trans hs, fun a h1 h2 => by rw [p4 a h1 h2, sI_ne h1, o1 a h2], fun j hj => by rw [p5 j hj, sI_oth hj, o1 _ (by omega)]⟩
    rw [← e, ← sh]
    simp (disch := omega) only [f_X8_keeps, reduceIte, ↓reduceIte, ↓ck_i, ↓nm_s, ↓bR_i, ↓bd_i, Option.isSome_some, Option.getD_some, gK, gR, gN, gIs, inb_nI, and_self, nI_clamp, fa_lit, pk_mul, nI_add, n10, n1z, n00, eq_self, not_true_eq_false, not_false_eq_true, hD.a, y23]
theorem AX.kept (h : AX T c fed tp nd D im G) (hw : SW T S c) : AX T (c + 1) fed tp (min (nd + 1) 12) (D2 nd D S) im G := by
  obtain ⟨h1, h2, h3, h4, h5⟩ := h.mono (Nat.le_succ c)
  refine ⟨h1, h2, by omega, fun k hk => ?_, h5⟩
  unfold D2
  split
  · split
    · exact hw.mono (by omega)
    · exact h4 k (by omega)
  · split
    · exact hw.mono (by omega)
    · exact h4 (k + 1) (by omega)
/-- the form of a deed -/
theorem pr_d {α : Type} {fx fm : Mm → Option (α × Mm)} (hcc : c + 1 ≤ 600) (g : Mm → Mm) (hg : ∀ N, (g N).2 = N.2 ∧ (∀ a, a ≠ B + 59 → (g N).1 a = N.1 a) ∧ ∀ j, j ≠ 0 → (g N).1 (B + 59) j = N.1 (B + 59) j)
    (h : ∀ M t T S, CQ B t M T S c → RQ B M T S c → t + 14 ≤ B + 44 ∧ t ≠ B ∧ (t + 14 ≤ B + 15 ∨ B + 25 ≤ t) →
      (∃ v P, fx M = some (v, M) ∧ fm M = some (v, P) ∧ KR B M P ∧ P.2 = M.2) ∨
      (∃ v S2, SW T S2 (c + 1) ∧
        (∀ N1, f_X7_remember B M = some ((), N1) → CQ B t N1 T S c → ∃ N, fx M = some (v, N) ∧ N.2 = N1.2 ∧ (∀ b, (b < B + 15 ∨ B + 25 ≤ b) → (b < B + 44 ∨ B + 59 ≤ b) → N.1 b = N1.1 b) ∧ CS N.1 (B + 15) T S2) ∧
        (∀ N P1, RQ B N T S c → f_X8_keeps (B + 59) (g N) = some ((), P1) → RQ B P1 T S c → ∃ P, fm N = some (v, P) ∧ P.2 = P1.2 ∧ (∀ b, b ≠ B + 59 → b ≠ B + 63 → b ≠ B + 68 → b ≠ B + 69 → P.1 b = P1.1 b) ∧ (P.1 (B + 59) 2 = P1.1 (B + 59) 2 ∧ P.1 (B + 59) 23 = P1.1 (B + 59) 23) ∧ RW 1407 (P.1 (B + 63)) S2))) : Pr B c fx fm := by
  intro M ⟨t, T, S, fed, tp, nd, D, im, G, hQ, hR, hX, hY, hA, hbl⟩
  have ht0 : t = B + 1 ∨ t = B + 30 := by
    obtain ⟨d, hd, -⟩ := hX.1
    omega
  have ht : t + 14 ≤ B + 44 ∧ t ≠ B ∧ (t + 14 ≤ B + 15 ∨ B + 25 ≤ t) := by omega
  rcases h M t T S hQ hR ht with ⟨v, P, e1, e2, kr, hp⟩ | ⟨v, S2, hw2, hc1, hc2⟩
  · exact ⟨v, M, e1, hR.1.1, v, P, e2, rfl, inv_q ⟨hQ, hR, hX, hY, hA⟩ hcc KC.rf kr (by rw [hp]; exact hbl)⟩
  obtain ⟨N1, eN1, ⟨a1, a2, a3, a4⟩, l1, l2⟩ := p_remember ⟨hQ, hR, hX, hY⟩ hA.2.2.1
  obtain ⟨N, eN, n1, n2, n3⟩ := hc1 N1 eN1 a1
  have hsh : N.2.2 = N1.2.2 := by rw [n1]
  have hRN : RQ B N T S c := a2.keep hsh (n2 _ (by omega) (by omega)) (n2 _ (by omega) (by omega))
  have n59 : N.1 (B + 59) = N1.1 (B + 59) := n2 _ (by omega) (by omega)
  have hYN : RX B N fed tp nd D im G := a4.keep (n2 _ (by omega) (by omega)) (n2 _ (by omega) (by omega)) (n2 _ (by omega) (by omega)) (n2 _ (by omega) (by omega)) (by rw [n59]) (by rw [n59])
  obtain ⟨g1, g2, g3⟩ := hg N
  have hRg : RQ B (g N) T S c := hRN.keep (by rw [g1]) (g2 _ (by omega)) (g2 _ (by omega))
  have hYg : RX B (g N) fed tp nd D im G := hYN.keep (g2 _ (by omega)) (g2 _ (by omega)) (g2 _ (by omega)) (g2 _ (by omega)) (g3 _ (by omega)) (g3 _ (by omega))
  obtain ⟨P1, eP1, b1, b2, b3, b4, b5⟩ := q_keeps hRg hYg hA.2.2.1
  obtain ⟨P, eP, p1, p2, p3, p4⟩ := hc2 N P1 hRN eP1 b1
  have hPN : P.2 = N.2 := by rw [p1, b3, g1]
  have hPs : P.2.2 = N.2.2 := by rw [hPN]
  have hPI : ∀ a, a < B + 59 ∨ B + 70 ≤ a → P.1 a = N.1 a := fun a ha => by rw [p2 a (by omega) (by omega) (by omega) (by omega), b4 a (by omega) (by omega), g2 a (by omega)]
  refine ⟨v, N, eN, by rw [hsh]; exact a2.1.1, v, P, eP, rfl, ⟨t, T, S2, fed, tp, min (nd + 1) 12, D2 nd D S, im, G, ?_, ?_, ?_, ?_, hA.kept hQ.2.2.2.2.2.2.2.1, ?_⟩⟩
  · obtain ⟨z1, z2, z3, z4, z5, z6, z7, z8, z9⟩ := a1
    have hs1 : P.2.2 = N1.2.2 := hPs.trans hsh
    exact ⟨by rw [hs1]; exact z1, by rw [hs1]; exact z2, by rw [hs1]; exact z3, by rw [hs1]; exact z4, z5, z6.of (fun b q1 q2 => by rw [hPI b (by omega), n2 b (by omega) (by omega)]), n3.of (fun b q1 q2 => hPI b (by omega)), hw2, hcc⟩
  · obtain ⟨z1, z2, z3, z4, z5, z6⟩ := b1
    exact ⟨by rw [show P.2.2 = P1.2.2 by rw [p1]]; exact z1, by rw [p2 _ (by omega) (by omega) (by omega) (by omega)]; exact z2, p4, z4, hw2, hcc⟩
  · obtain ⟨c1, c2, c3, c4, c5, c6, c7, c8, c9, c10⟩ := a3
    have hs1 : P.2.2 = N1.2.2 := hPs.trans hsh
    have hI : ∀ b, (b < B + 15 ∨ B + 25 ≤ b) → (b < B + 44 ∨ B + 71 ≤ b) → P.1 b = N1.1 b := fun b q1 q2 => by rw [hPI b (by omega), n2 b q1 (by omega)]
    unfold CX
    rw [hs1, hI (B + 28) (by omega) (by omega), hI (B + 29) (by omega) (by omega), hI (B + 27) (by omega) (by omega), hI B (by omega) (by omega)]
    refine ⟨c1, c2, c3, c4, c5, c6, fun k hk => ?_, c8, fun k hk hq => ?_, c10⟩
    · obtain ⟨a, q1, q2⟩ := c7 k hk
      have q3 := (c10.2.1 k (by omega) a (by unfold ent; rw [if_pos (by omega)]; exact q1)).2
      exact ⟨a, q1, q2.of (fun b r1 r2 => hI b (by omega) (by omega))⟩
    · obtain ⟨a, q1, q2⟩ := c9 k hk hq
      have q3 := (c10.2.1 (k + 12) (by omega) a (by unfold ent; rw [if_neg (by omega), Nat.add_sub_cancel]; exact q1)).2
      exact ⟨a, q1, q2.of (fun b r1 r2 => hI b (by omega) (by omega))⟩
  · exact b2.keep (p2 _ (by omega) (by omega) (by omega) (by omega)) (p2 _ (by omega) (by omega) (by omega) (by omega)) (p2 _ (by omega) (by omega) (by omega) (by omega)) (p2 _ (by omega) (by omega) (by omega) (by omega)) p3.1 p3.2
  · rw [hPN, n1, l1, l2]; exact hbl
end KEEPS
section SWS
variable {B t c l : Nat} {T S S2 : Nat → Nat} {M N P : Mm} {x y z u : Int32}
theorem sh_cong {k w : Nat} (h1 : S2 1206 = S 1206) (h2 : S2 (60 * l + k) = S (60 * l + k)) (h3 : S2 (480 + 60 * l + k) = S (480 + 60 * l + k)) (h4 : S2 (720 + 60 * l + k) = S (720 + 60 * l + k)) (h5 : S (60 * l + k) = 3 → S2 (1215 + 21 * l + S (480 + 60 * l + k)) = S (1215 + 21 * l + S (480 + 60 * l + k))) : shS T S2 l k w = shS T S l k w := by
  have hp : S (60 * l + k) = 3 → prS T S2 l (S (480 + 60 * l + k)) = prS T S l (S (480 + 60 * l + k)) := fun h => by unfold prS; rw [h5 h]
  have hds : dsS T S2 l k = dsS T S l k := by unfold dsS; rw [h4]
  unfold shS
  split
  · rw [h1, h2, h3]
  · rw [h2, hds]
  · rw [h2, h3]
    by_cases h : S (60 * l + k) = 3
    · rw [if_pos h, if_pos h, hp h]
    · rw [if_neg h, if_neg h]
  · rw [h2, hds]
  · rw [h2, hds]
  · rw [h2, h3]
    by_cases h : S (60 * l + k) = 3
    · rw [if_pos h, if_pos h, hp h]
    · rw [if_neg h, if_neg h]
/-- what is so behind a deed that retires nobody -/
theorem SW.deed {d : Nat} (h : SW T S c) (a1 : S2 1206 = S 1206) (a2 : ∀ h, h < T 1 → S2 (1200 + h) ≤ 1000000000) (a3 : ∀ l, l < T 0 → 1 ≤ S2 (1207 + l) ∧ S2 (1207 + l) ≤ 2147483646 ∧ S2 (1211 + l) ≤ 99999 * d)
    (a4 : ∀ l, l < T 0 → ∀ y, 1 ≤ y → y ≤ T (12 + 7 * l + 3) → S2 (1215 + 21 * l + y) ≤ 999 ∧ (y ≤ S 1206 → S2 (1215 + 21 * l + y) = S (1215 + 21 * l + y)) ∧ S2 (1299 + 21 * l + y) = S (1299 + 21 * l + y))
    (a5 : ∀ l, l < T 0 → ∀ k, k < T (12 + 7 * l) → S2 (60 * l + k) = S (60 * l + k) ∧ S2 (240 + 60 * l + k) ≤ T 1 ∧ S2 (480 + 60 * l + k) = S (480 + 60 * l + k) ∧ S2 (720 + 60 * l + k) = S (720 + 60 * l + k) ∧ S2 (960 + 60 * l + k) = S (960 + 60 * l + k))
    (a6 : ∀ l, l < T 0 → ∀ w, w < 6 → S2 (1383 + 6 * l + w) = S (1383 + 6 * l + w)) : SW T S2 d := by
  obtain ⟨h1, h2, h3, h4, h5, h6, h7⟩ := h
  have hpr : ∀ l, l < T 0 → ∀ k, k < T (12 + 7 * l) → S (60 * l + k) = 3 → S2 (1215 + 21 * l + S (480 + 60 * l + k)) = S (1215 + 21 * l + S (480 + 60 * l + k)) := fun l hl k hk h3 => by
    have q := h5 l hl k hk
    refine (a4 l hl _ ?_ q.2.2.2.2.1).2.1 q.2.2.2.1
    exact Nat.pos_of_ne_zero (fun h0 => by rw [← q.2.2.1] at h0; omega)
  have hsh : ∀ l, l < T 0 → ∀ k, k < T (12 + 7 * l) → ∀ w, shS T S2 l k w = shS T S l k w := fun l hl k hk w => by
    have q := a5 l hl k hk
    exact sh_cong a1 q.1 q.2.2.1 q.2.2.2.1 (hpr l hl k hk)
  refine ⟨by rw [a1]; exact h1, a2, a3, fun l hl y y1 y2 => ?_, fun l hl k hk => ?_, fun l hl w hw hw4 => ?_, fun l hl h0 hy => ?_⟩
  · have q := a4 l hl y y1 y2
    rw [a1, q.2.2]
    exact ⟨q.1, (h4 l hl y y1 y2).2⟩
  · have q := a5 l hl k hk
    have r := h5 l hl k hk
    rw [a1, q.1, q.2.2.1, q.2.2.2.1, q.2.2.2.2, hsh l hl k hk, hsh l hl k hk, hsh l hl k hk]
    refine ⟨r.1, q.2.1, r.2.2.1, r.2.2.2.1, r.2.2.2.2.1, r.2.2.2.2.2.1, r.2.2.2.2.2.2.1, r.2.2.2.2.2.2.2.1, fun h3 => ?_, r.2.2.2.2.2.2.2.2.2⟩
    have := r.2.2.2.2.2.2.2.2.1 h3
    unfold prS at this ⊢
    rw [hpr l hl k hk h3]
    exact this
  · rw [a6 l hl w hw, h6 l hl w hw hw4]
    exact fb_sm_cong (fun k hk => (hsh l hl k hk w).symm)
  · rw [a1]
    have : ctS T S2 l 0 = ctS T S l 0 := fb_ct_cong (fun k hk => by rw [(a5 l hl k hk).1])
    rw [this]
    rw [a1] at hy
    exact h7 l hl h0 hy
end SWS
