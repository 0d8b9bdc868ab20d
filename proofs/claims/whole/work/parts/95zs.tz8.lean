/-! text: the call -/
section TZ8
variable {B t c fed nd n d : Nat} {T S tp im : Nat → Nat} {D G : Nat → Nat → Nat} {M N P : Mm} {x : Int32}
theorem c_65 {v : Int32} (m : Nat) (hC : CmA B M.2.2) : f_X7_text_65 (m + 3) B v (0 : Int32) M = some (v, sI (sI M (B + 27) 0 (0 : Int32)) (B + 27) 1 (0 : Int32)) := by
  have k7 : ∀ N : Mm, N.2 = M.2 → gK N B = 7 := fun N q => by
    show N.2.2.2.1 B = 7
    rw [q]; exact hC.1
  have r5 : ∀ N : Mm, N.2 = M.2 → gR N B 5 = some (B + 27) := fun N q => by
    show N.2.2.1 B 5 = _
    rw [q]; simp only [hC]
  have ii : ∀ (N : Mm) (k : Nat), N.2 = M.2 → k < 2 → gK N (B + 27) = 11 ∧ inb (nI k) (gN N (B + 27)) := fun N k q hk => by
    have a : gK N (B + 27) = 11 := by
      show N.2.2.2.1 (B + 27) = _
      rw [q]; simp only [hC]
    have b : gN N (B + 27) = 2 := by
      show N.2.2.2.2.1 (B + 27) = _
      rw [q]; simp only [hC]
    exact ⟨a, by rw [b]; exact nI_in hk (by omega)⟩
  have nb : vp_nar .boolean (0 : Int32) = (0 : Int32) := by decide
  have e0 : ((0 : Int32)).toNatClampNeg = 0 := by decide
  have e1 : ((1 : Int32)).toNatClampNeg = 1 := by decide
  have s1 : (0 : Int32) + (1 : Int32) = (1 : Int32) := by decide
  have s2 : (1 : Int32) + (1 : Int32) = (2 : Int32) := by decide
  have i0 : gK M (B + 27) = 11 ∧ inb (0 : Int32) (gN M (B + 27)) := ii M 0 rfl (by omega)
  have i1 : gK (sI M (B + 27) 0 (0 : Int32)) (B + 27) = 11 ∧ inb (1 : Int32) (gN (sI M (B + 27) 0 (0 : Int32)) (B + 27)) := ii _ 1 rfl (by omega)
  rw [f_X7_text_65, if_neg (by decide), ck_t (k7 M rfl), r5 M rfl, bR_s, ck_t i0, nm_s, nb, e0, s1, f_X7_text_65, if_neg (by decide), ck_t (k7 (sI M (B + 27) 0 (0 : Int32)) rfl), r5 (sI M (B + 27) 0 (0 : Int32)) rfl, bR_s, ck_t i1, nm_s, nb, e1, s2, f_X7_text_65, if_pos (by decide)]
theorem Blk.ext {sh sh2 : Shp} (h : Blk B sh) (h1 : ∀ b i, ¬ (b = B ∧ i = 0) → ¬ (b = B + 28 ∧ i = 3) → sh2.1 b i = sh.1 b i) (h2 : sh2.2 = sh.2) : Blk B sh2 := by
  have en : ∀ k, ent B sh2 k = ent B sh k := fun k => by
    unfold ent
    rw [h1 (B + 25) k (by omega) (by omega), h1 (B + 26) (k - 12) (by omega) (by omega)]
  refine ⟨by rw [h2]; exact h.1, fun k hk a ha => ?_, fun k j hk hj hn a b ha hb => ?_⟩
  · rw [en] at ha
    obtain ⟨q1, q2, q3⟩ := h.2.1 k hk a ha
    exact ⟨StA.ext (fun b b1 b2 => ⟨funext fun i => h1 b i (by omega) (by omega), by rw [h2], by rw [h2]⟩) q1, q2, by rw [h2]; exact q3⟩
  · rw [en] at ha hb
    exact h.2.2 k j hk hj hn a b ha hb
theorem t_out (hcc : c + 1 ≤ 600) (hx : x < nI 0 ∨ ¬ x < nI 0 ∧ nI fed < x) (hQ : CQ B t M T S c) (hR : RQ B M T S c) (hX : CX B t M T fed tp nd D im G) (hY : RX B M fed tp nd D im G) (hA : AX T c fed tp nd D im G) (hbl : M.2.1 B 6 = M.2.1 (B + 59) 28) : Ok (f_X7_text B x M) (fun v N => N.2.2.2.1 (B + 59) = 8 ∧ Ok (f_X8_text (B + 59) x N) (fun w P => v = w ∧ Inv B (c + 1) P)) := by
  have hC := hQ.1
  have hD := hR.1
  have x1 : gI M (B + 28) 1 = nI fed := hX.2.2.2.1
  have k7 : gK M B = 7 := hC.1
  have r7 : gR M B 7 = some (B + 28) := by simp only [gR, hC]
  have k3 : gK M (B + 28) = 3 := by simp only [gK, hC]
  have k8 : gK M (B + 59) = 8 := hD.1
  have s2 : gI (sI M (B + 59) 0 (0 : Int32)) (B + 59) 2 = nI fed := by
    show (sI M (B + 59) 0 (0 : Int32)).1 (B + 59) 2 = _
    rw [sI_oth (by omega)]; exact hY.1
  have e1 : f_X7_text B x M = some ((-1 : Int32), M) := by
    rcases hx with h | ⟨h, h2⟩
    · rw [f_X7_text, if_pos (show x < 0 from h)]
    · rw [f_X7_text, if_neg (show ¬ x < 0 from h), ck_t k7, r7, bR_s, ck_t k3, x1, if_neg (fa_of_lt h2).2.1]
  have wt : f_X8_within x.toInt64 (0 : Int64) (nI fed).toInt64 (sI M (B + 59) 0 (0 : Int32)) = some (nI 0, sI M (B + 59) 0 (0 : Int32)) := by
    have := wi x (lo := 0) (by omega) (nI fed) (sI M (B + 59) 0 (0 : Int32))
    rcases hx with h | ⟨h, h2⟩
    · rw [if_pos h] at this; exact this
    · rw [if_neg h, if_pos h2] at this; exact this
  have k8' : gK (sI M (B + 59) 0 (0 : Int32)) (B + 59) = 8 := k8
  have e2 : f_X8_text (B + 59) x M = some ((-1 : Int32), sI M (B + 59) 0 (0 : Int32)) := by
    rw [f_X8_text, ck_t k8, nm_s, ck_t k8', s2, wt, bd_s, if_neg (by decide)]
  refine ⟨_, M, e1, hD.1, _, _, e2, rfl, inv_q ⟨hQ, hR, hX, hY, hA⟩ hcc KC.rf ⟨rfl, fun a ha _ _ => sI_ne ha, sI_oth (by omega), sI_oth (by omega), rfl⟩ hbl⟩
theorem m2_neg {e : Nat} (he : e < 6000) : ¬ (0 : Int32) ≤ (-2 : Int32) - nI e := by
  have h2 : (-2 : Int32).toInt = -2 := by decide
  have h0 : (0 : Int32).toInt = 0 := by decide
  have he2 := nI_toInt (n := e) (by omega)
  rw [fa_le, fb_subI (by rw [h2, he2]; omega) (by rw [h2, he2]; omega), h2, h0, he2]
  omega
set_option maxHeartbeats 1000000 in
theorem pr_text (hcc : c + 1 ≤ 600) : Pr B c (f_X7_text B x) (f_X8_text (B + 59) x) := by
  intro M ⟨t, T, S, fed, tp, nd, D, im, G, hQ, hR, hX, hY, hA, hbl⟩
  have f7 := hA.1
  rcases ix0 x (n := fed + 1) (by omega) with h | ⟨h, h2⟩ | ⟨n, hn, rfl⟩
  · exact t_out hcc (Or.inl h) hQ hR hX hY hA hbl
  · refine t_out hcc (Or.inr ⟨h, ?_⟩) hQ hR hX hY hA hbl
    rw [fa_le, nI_toInt (by omega)] at h2
    rw [fa_lt, nI_toInt (by omega)]
    omega
  have hC := hQ.1
  have hD := hR.1
  have hSt := hQ.2.2.2.1
  have x1 : gI M (B + 28) 1 = nI fed := hX.2.2.2.1
  have k7 : gK M B = 7 := hC.1
  have r7 : gR M B 7 = some (B + 28) := by simp only [gR, hC]
  have k3 : gK M (B + 28) = 3 := by simp only [gK, hC]
  obtain ⟨d, hd, hr3⟩ := hX.1
  have hAd : TmA d M.2.2 := by
    rcases hd with ⟨_, e⟩ | ⟨_, e⟩
    · rw [e]; exact hX.2.2.1
    · rw [e]; exact hX.2.1
  have hdd : d + 14 ≤ B + 28 ∨ B + 30 ≤ d := by omega
  have cr := c_read (tp := tp) (n := n) hC hr3 hAd hdd hX.2.2.2.1 f7 (by omega) (fun k hk => ⟨hX.2.2.2.2.1 k hk, hA.2.1 k hk⟩)
  have rt : ∀ P : Mm, RfA B P.2.2 → P.1 (B + 59) 2 = nI fed → P.1 (B + 60) = M.1 (B + 60) → Ok (f_X8_text (B + 59) (nI n) P) (ReadR B P (pLoop n tp (n + 1) (skB tp (n - 0) 0) zrN zrN 0 0 0 0 0 0)) := fun P a b e => r_text a b f7 (by omega) (fun k hk => by rw [e]; exact ⟨hY.2.1 k hk, hA.2.1 k hk⟩)
  generalize pLoop n tp (n + 1) (skB tp (n - 0) 0) zrN zrN 0 0 0 0 0 0 = o at cr rt
  obtain ⟨v, N, e1, M9, qc, m9, o9, s9⟩ := cr
  have pre : f_X7_text B (nI n) M = (if 0 ≤ v then
        ck (gK N B = 7) (bR (gR N B 7) fun q5 => ck (gK N B = 7) (bR (gR N B 0) fun q6 => ck (gK N q5 = 3) (bd (f_X3_exchange q5 q6 N) fun v8 M7 =>
        ck (gK M7 B = 7) (nm (sR M7 B 0 (some v8)) fun M9 =>
        ck (gK M9 B = 7) (bR (gR M9 B 1) fun q10 => ck (gK M9 B = 7) (bR (gR M9 B 0) fun q11 => ck (gK M9 q10 = 5) (bd (f_X5_begin q10 q11 M9) fun _ M12 =>
        ck (gK M12 B = 7) (nm (sI M12 B 3 (0 : Int32)) fun M13 =>
        f_X7_text_65 FU B v (0 : Int32) M13))))))))
      else
        some (v, N)) := by
    rw [f_X7_text, if_neg (show ¬ nI n < 0 from nI_pos (by omega)), ck_t k7, r7, bR_s, ck_t k3, x1, if_pos ((nI_leI (by omega) (by omega)).mpr (by omega)), ck_t k7, bR_s, ck_t k3, e1, bd_s]
  rcases o with e | ⟨T2, S2, ln⟩
  · obtain ⟨rfl, e6, kN⟩ := qc
    have mN : N.2 = M.2 := kN.1.trans m9
    have mN2 : N.2.2 = M.2.2 := by rw [mN]
    have oN : ∀ b, b ≠ B + 28 → (b < d ∨ d + 14 ≤ b) → N.1 b = M.1 b := fun b h1 h2 => by rw [kN.2.1 b h1 h2, o9 b h1 h2]
    have sN : N.1 (B + 28) 1 = nI 0 := by rw [kN.2.2 1 (by omega)]; exact s9
    obtain ⟨w, P, z1, z2⟩ := rt N (by rw [mN]; exact hD) (by rw [oN _ (by omega) (by omega)]; exact hY.1) (oN _ (by omega) (by omega))
    obtain ⟨rfl, p2, p3, p4, p5⟩ := z2
    rw [if_neg (m2_neg e6)] at pre
    refine ⟨_, N, pre, by rw [mN]; exact hD.1, _, P, z1, rfl, ?_⟩
    have pM : P.2 = M.2 := p2.trans mN
    have pM2 : P.2.2 = M.2.2 := by rw [pM]
    have oP : ∀ b, b ≠ B + 28 → (b < d ∨ d + 14 ≤ b) → b ≠ B + 59 → b ≠ B + 62 → b ≠ B + 64 → P.1 b = M.1 b := fun b h1 h2 h3 h4 h5 => by rw [p3 b h3 h4 h5, oN b h1 h2]
    obtain ⟨a1, a2, a3, a4, a5, a6, a7, a8, a9⟩ := hQ
    obtain ⟨c1, c2, c3, c4, c5, c6, c7, c8, c9, c10⟩ := hX
    obtain ⟨r1, r2, r3, r4, r5, r6⟩ := hR
    obtain ⟨y1, y2, y3, y4, y5, y6⟩ := hY
    obtain ⟨g1, g2, g3, g4, g5⟩ := hA
    refine ⟨t, T, S, 0, tp, nd, D, im, G, ⟨by rw [pM2]; exact a1, by rw [pM2]; exact a2, by rw [pM2]; exact a3, by rw [pM2]; exact a4, a5, a6.of (fun b b1 b2 => oP b (by omega) (by omega) (by omega) (by omega) (by omega)), a7.of (fun b b1 b2 => oP b (by omega) (by omega) (by omega) (by omega) (by omega)), a8.mono (by omega), hcc⟩, ⟨by rw [pM2]; exact r1, by rw [oP _ (by omega) (by omega) (by omega) (by omega) (by omega)]; exact r2, by rw [oP _ (by omega) (by omega) (by omega) (by omega) (by omega)]; exact r3, r4, r5.mono (by omega), hcc⟩, ⟨by rw [pM2]; exact c1, by rw [pM2]; exact c2, by rw [pM2]; exact c3, by rw [p3 _ (by omega) (by omega) (by omega)]; exact sN, fun k hk => by omega, by rw [oP _ (by omega) (by omega) (by omega) (by omega) (by omega)]; exact c6, fun k hk => ?_, by rw [oP _ (by omega) (by omega) (by omega) (by omega) (by omega)]; exact c8, fun k hk q => ?_, by rw [pM2]; exact c10⟩, ⟨p4, fun k hk => by omega, ?_, by rw [oP _ (by omega) (by omega) (by omega) (by omega) (by omega)]; exact y4, by rw [oP _ (by omega) (by omega) (by omega) (by omega) (by omega)]; exact y5, by rw [oP _ (by omega) (by omega) (by omega) (by omega) (by omega)]; exact y6⟩, ⟨by omega, fun k hk => by omega, g3, fun k hk => (g4 k hk).mono (by omega), fun k hk => ⟨(g5 k hk).1, fun q => ((g5 k hk).2 q).mono (by omega)⟩⟩, by rw [pM]; exact hbl⟩
    · obtain ⟨a, q1, q2⟩ := c7 k hk
      have q3 := (c10.2.1 k (by omega) a (by unfold ent; rw [if_pos (by omega)]; exact q1)).2
      exact ⟨a, by rw [pM2]; exact q1, q2.of (fun b b1 b2 => oP b (by omega) (by omega) (by omega) (by omega) (by omega))⟩
    · obtain ⟨a, q1, q2⟩ := c9 k hk q
      have q3 := (c10.2.1 (k + 12) (by omega) a (by unfold ent; rw [if_neg (by omega), Nat.add_sub_cancel]; exact q1)).2
      exact ⟨a, by rw [pM2]; exact q1, q2.of (fun b b1 b2 => oP b (by omega) (by omega) (by omega) (by omega) (by omega))⟩
    · rw [p5, oN _ (by omega) (by omega)]; exact y3
  · obtain ⟨rfl, ln7, kN, l, g, hcp⟩ := qc
    have mN : N.2 = M.2 := kN.1.trans m9
    have mN2 : N.2.2 = M.2.2 := by rw [mN]
    have oN : ∀ b, b ≠ B + 28 → (b < d ∨ d + 14 ≤ b) → N.1 b = M.1 b := fun b h1 h2 => by rw [kN.2.1 b h1 h2, o9 b h1 h2]
    have sN : N.1 (B + 28) 1 = nI 0 := by rw [kN.2.2 1 (by omega)]; exact s9
    have hcd := hcp.2.2.2.2.1
    have hdw := hcp.2.2.2.2.2.1
    have k7N : gK N B = 7 := by
      show N.2.2.2.1 B = 7
      rw [mN]; exact hC.1
    have r7N : gR N B 7 = some (B + 28) := by
      show N.2.2.1 B 7 = _
      rw [mN]; exact r7
    have r0N : gR N B 0 = some t := by
      show N.2.2.1 B 0 = _
      rw [mN]; exact hQ.2.1
    have k3N := hcp.k3
    have ex : f_X3_exchange (B + 28) t N = some (d, sR N (B + 28) 3 (some t)) := by
      rw [f_X3_exchange, ck_t k3N, hcp.r3, bR_s, ck_t k3N, nm_s]
    have k7' : gK (sR N (B + 28) 3 (some t)) B = 7 := k7N
    rw [if_pos (nI_pos' (by omega)), ck_t k7N, r7N, bR_s, ck_t k7N, r0N, bR_s, ck_t k3N, ex, bd_s, ck_t k7', nm_s] at pre
    generalize hXm : sR (sR N (B + 28) 3 (some t)) B 0 (some d) = X at pre
    have xr : ∀ b i, ¬ (b = B ∧ i = 0) → ¬ (b = B + 28 ∧ i = 3) → X.2.2.1 b i = M.2.2.1 b i := fun b i h1 h2 => by
      rw [← hXm, ← mN2]
      show (if b = B ∧ i = 0 then _ else if b = B + 28 ∧ i = 3 then _ else _) = _
      rw [if_neg h1, if_neg h2]
    have x0 : X.2.2.1 B 0 = some d := by
      rw [← hXm]
      show (if B = B ∧ 0 = 0 then _ else _) = _
      rw [if_pos ⟨rfl, rfl⟩]
    have x3 : X.2.2.1 (B + 28) 3 = some t := by
      rw [← hXm]
      show (if B + 28 = B ∧ 3 = 0 then _ else if B + 28 = B + 28 ∧ 3 = 3 then _ else _) = _
      rw [if_neg (by omega), if_pos ⟨rfl, rfl⟩]
    have xs : X.2.2.2 = M.2.2.2 := by
      rw [← hXm, ← mN2]; rfl
    have xi : X.1 = N.1 := by rw [← hXm]; rfl
    have xl : X.2.1 = M.2.1 := by
      rw [← hXm]
      show N.2.1 = M.2.1
      rw [mN]
    clear hXm
    have ext : ∀ b, b ≠ B → b ≠ B + 28 → X.2.2.1 b = M.2.2.1 b ∧ X.2.2.2.1 b = M.2.2.2.1 b ∧ X.2.2.2.2.1 b = M.2.2.2.2.1 b := fun b h1 h2 => ⟨funext fun i => xr b i (by omega) (by omega), by rw [xs], by rw [xs]⟩
    have stX : StA (B + 15) X.2.2 := StA.ext (fun b b1 b2 => ext b (by omega) (by omega)) hSt
    have tm : ∀ u, TmA u M.2.2 → (u + 14 ≤ B + 28 ∨ B + 30 ≤ u) → B < u → TmA u X.2.2 := fun u q h1 h2 => TmA.ext (fun b b1 b2 => ext b (by omega) (by omega)) q
    have cX : CmA B X.2.2 := CmA.ext (fun b b1 b2 => ⟨fun _ _ i h1 h2 => xr b i h1 h2, by rw [xs], by rw [xs]⟩) hC
    have rX : RfA B X.2.2 := RfA.ext (fun b b1 b2 => ⟨fun _ _ i h1 h2 => xr b i h1 h2, by rw [xs], by rw [xs]⟩) hD
    have bX : Blk B X.2.2 := Blk.ext hX.2.2.2.2.2.2.2.2.2 xr xs
    have hg : BgA (B + 15) d X := ⟨stX, tm d hAd hdd (by omega), by omega⟩
    obtain ⟨Y, b1, b2, b3, b4⟩ := p_begin (M := X) (T := T2) (S := S2) (l := l) (g := g) hg (by rw [xi]; exact hcd) hdw
    have k7X : gK X B = 7 := cX.1
    have k7Y : gK Y B = 7 := by
      show Y.2.2.2.1 B = 7
      rw [b2]; exact cX.1
    have r1X : gR X B 1 = some (B + 15) := by
      show X.2.2.1 B 1 = _
      exact cX.2.1
    have k5X : gK X (B + 15) = 5 := stX.1
    have cY : CmA B (sI Y B 3 (0 : Int32)).2.2 := by
      show CmA B Y.2.2
      rw [b2]; exact cX
    obtain ⟨m, hm⟩ : ∃ m, FU = m + 3 := ⟨199997, rfl⟩
    rw [ck_t k7X, r1X, bR_s, ck_t k7X, show gR X B 0 = some d from x0, bR_s, ck_t k5X, b1, bd_s, ck_t k7Y, nm_s, hm, c_65 m cY] at pre
    generalize hF : sI (sI (sI Y B 3 (0 : Int32)) (B + 27) 0 (0 : Int32)) (B + 27) 1 (0 : Int32) = F at pre
    have fs : F.2 = X.2 := by rw [← hF]; exact b2
    have f2 : F.2.2 = X.2.2 := by rw [fs]
    have fo : ∀ b, b ≠ B → b ≠ B + 27 → (b < B + 15 ∨ B + 25 ≤ b) → F.1 b = N.1 b := fun b h1 h2 h3 => by rw [← hF, sI_ne h2, sI_ne h2, sI_ne h1, b3 b (by omega), xi]
    have f3 : F.1 B 3 = nI 0 := by rw [← hF, sI_ne (by omega), sI_ne (by omega), sI_hit]; rfl
    have f27 : ∀ k, k < 2 → F.1 (B + 27) k = nI 0 := fun k hk => by
      by_cases e : k = 1
      · rw [← hF, e, sI_hit]; rfl
      · have e2 : k = 0 := by omega
        rw [← hF, e2, sI_oth (by omega), sI_hit]; rfl
    have fy : ∀ b, B + 15 ≤ b → b < B + 25 → F.1 b = Y.1 b := fun b h1 h2 => by rw [← hF, sI_ne (by omega), sI_ne (by omega), sI_ne (by omega)]
    clear hF
    have foM : ∀ b, B + 44 ≤ b → F.1 b = M.1 b := fun b h => by rw [fo b (by omega) (by omega) (by omega), oN b (by omega) (by omega)]
    obtain ⟨w, P, z1, z2⟩ := rt F (by rw [f2]; exact rX) (by rw [foM _ (by omega)]; exact hY.1) (foM _ (by omega))
    obtain ⟨rfl, p2, p3, p4, p5, p6, p7, p8⟩ := z2
    refine ⟨_, F, pre, by rw [f2]; exact rX.1, _, P, z1, rfl, ?_⟩
    have pX : P.2 = X.2 := p2.trans fs
    have pX2 : P.2.2 = X.2.2 := by rw [pX]
    have pF : ∀ b, b < B + 59 ∨ B + 71 ≤ b → P.1 b = F.1 b := fun b h => p8 b (by omega) (by omega) (by omega) (by omega) (by omega) (by omega)
    have hct := cd_CT hcd hdw
    have htw := dw_TW hdw
    refine ⟨d, T2, S2, 0, tp, 0, D, (fun _ => 0), G, ⟨by rw [pX2]; exact cX, by rw [pX2]; exact x0, by rw [pX2]; exact hg.2.1, by rw [pX2]; exact stX, htw, hct.of (fun b h1 h2 => by rw [pF b (by omega), fo b (by omega) (by omega) (by omega)]), b4.of (fun b h1 h2 => by rw [pF b (by omega), fy b (by omega) (by omega)]), dw_SW hdw, hcc⟩, ⟨by rw [pX2]; exact rX, p3, p4, htw, dw_SW hdw, hcc⟩, ⟨⟨t, by omega, by rw [pX2]; exact x3⟩, by rw [pX2]; exact tm _ hX.2.1 (by omega) (by omega), by rw [pX2]; exact tm _ hX.2.2.1 (by omega) (by omega), ?_, fun k hk => by omega, by rw [pF _ (by omega)]; exact f3, fun k hk => by omega, fun k hk => by rw [pF _ (by omega)]; exact f27 k hk, fun k hk q => absurd (show (0 : Nat) = 1 from q) (by decide), by rw [pX2]; exact bX⟩, ⟨p5, fun k hk => by omega, p6, fun k hk => by omega, p7, fun k hk q => absurd (show (0 : Nat) = 1 from q) (by decide)⟩, ⟨by omega, fun k hk => by omega, by omega, fun k hk => by omega, fun k hk => ⟨Nat.zero_le 1, fun q => absurd (show (0 : Nat) = 1 from q) (by decide)⟩⟩, ?_⟩
    · rw [pF _ (by omega), fo _ (by omega) (by omega) (by omega)]; exact sN
    · rw [pX, xl]; exact hbl
end TZ8
