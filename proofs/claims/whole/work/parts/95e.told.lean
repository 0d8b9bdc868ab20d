section TOLD
variable {B t c l : Nat} {T S : Nat → Nat} {M N P : Mm} {x y : Int32}
theorem aH_nx {p q j m : Nat} : aH T S l p q (j + 1) * q ^ m = aH T S l p q j * q ^ (m + 1) + p ^ (j + 1) * q ^ m * vP T S l (S 1206 + 1 + j) := by
  rw [aH_s, Nat.add_mul, Nat.pow_succ q m]
  rw [Nat.mul_assoc (aH T S l p q j) q (q ^ m), Nat.mul_comm q (q ^ m)]
  rw [Nat.mul_assoc (vP T S l (S 1206 + 1 + j)) (p ^ (j + 1)) (q ^ m), Nat.mul_comm (vP T S l (S 1206 + 1 + j))]
theorem aH_mono {p q : Nat} : ∀ (d j : Nat), aH T S l p q j * q ^ d ≤ aH T S l p q (j + d)
  | 0, j => by rw [Nat.pow_zero, Nat.mul_one]; exact Nat.le_refl _
  | d + 1, j => by
    have h := aH_mono (p := p) (q := q) d (j + 1)
    rw [aH_nx, show j + 1 + d = j + (d + 1) by omega] at h
    omega
theorem q_told_lp (hl : l < T 0) {p q n : Nat} (hp0 : 0 < p) (hp : p ≤ 1000) (hq0 : 0 < q) (hq : q ≤ 1000) (hn : S 1206 + n = T (12 + 7 * l + 3)) : ∀ (d j m : Nat) (M : Mm), j + d = n → d < m → RQ B M T S c → QR B M T S l 0 0 0 → M.2.1 (B + 59) 29 = lN (aH T S l p q j * q ^ d) → aH T S l p q j * q ^ d ≤ 4611686018427387904 → ∃ N, f_X8_isTold_108 m (B + 59) (nI l) (nI n) (lN p) (lN q) (nI (j + 1)) M = some (if aH T S l p q n ≤ 4611686018427387904 then nI 1 else nI 0, N) ∧ KU B M N ∧ (aH T S l p q n ≤ 4611686018427387904 → N.2.1 (B + 59) 29 = lN (aH T S l p q n)) ∧ N.2.1 (B + 59) 30 = M.2.1 (B + 59) 30 := by
  intro d
  induction d with
  | zero =>
    intro j m M hd hm hR hA h1 h2
    have w := (hR.2.2.2.1.2.2 l hl).2.2.2.2.2.2.1
    obtain ⟨m, rfl⟩ : ∃ q, m = q + 1 := ⟨m - 1, by omega⟩
    have hj : j = n := by omega
    subst hj
    rw [Nat.pow_zero, Nat.mul_one] at h1 h2
    refine ⟨M, ?_, ⟨rfl, rfl, fun _ _ => rfl, fun _ _ _ => rfl⟩, fun _ => h1, rfl⟩
    rw [if_pos h2, f_X8_isTold_108, if_pos (by rw [nI_ltI (by omega) (by omega)]; omega)]
    rfl
  | succ d ih =>
    intro j m M hd hm hR hA h1 h2
    have w := (hR.2.2.2.1.2.2 l hl).2.2.2.2.2.2.1
    have y60 := hR.2.2.2.2.1.1
    obtain ⟨m, rfl⟩ : ∃ q, m = q + 1 := ⟨m - 1, by omega⟩
    have vl := vP_le hR.2.2.2.1 hR.2.2.2.2.1 hR.2.2.2.2.2 hl (y := S 1206 + 1 + j) (by omega) (by omega)
    have pv := q_vP hR hl hA (y := S 1206 + 1 + j) (by omega) (by omega)
    have t1 := q_pow (M := M) (p := p) (n := j + 1) hp0 hp (by omega)
    have t2 := q_pow (M := M) (p := q) (n := d) hq0 hq (by omega)
    have t3 := q_times (M := M) (p ^ (j + 1)) (q ^ d)
    have t4 := q_times (M := M) (p ^ (j + 1) * q ^ d) (vP T S l (S 1206 + 1 + j))
    rw [show sa (vP T S l (S 1206 + 1 + j)) = vP T S l (S 1206 + 1 + j) from sa_id (by omega)] at t4
    have nx := aH_nx (T := T) (S := S) (l := l) (p := p) (q := q) (j := j) (m := d)
    have mo := aH_mono (T := T) (S := S) (l := l) (p := p) (q := q) d (j + 1)
    rw [show j + 1 + d = n by omega] at mo
    have la := sa_le (p ^ (j + 1) * q ^ d * vP T S l (S 1206 + 1 + j))
    have k8 : gK M (B + 59) = 8 := hR.1.1
    have r17 : gR M (B + 59) 17 = some (B + 63) := by show M.2.2.1 (B + 59) 17 = _; simp only [hR.1]
    have k10 : gK M (B + 63) = 10 ∧ inb (1206 : Int32) (gN M (B + 63)) := ⟨by show M.2.2.2.1 (B + 63) = _; simp only [hR.1], by rw [show gN M (B + 63) = 1407 by show M.2.2.2.2.1 (B + 63) = _; simp only [hR.1]]; exact nI_in (c := 1206) (by omega) (by omega)⟩
    have y6 : gI M (B + 63) ((1206 : Int32)).toNatClampNeg = nI (S 1206) := by
      rw [show ((1206 : Int32)).toNatClampNeg = 1206 from nI_clamp (n := 1206) (by omega)]
      exact hR.2.2.1 1206 (by omega)
    have st : f_X8_isTold_108 (m + 1) (B + 59) (nI l) (nI n) (lN p) (lN q) (nI (j + 1)) M = (if (4611686018427387904 : Int64) < lN (sa (p ^ (j + 1) * q ^ d * vP T S l (S 1206 + 1 + j))) then some ((0 : Int32), M) else ck (gK M (B + 59) = 8) (if (gL M (B + 59) 29) ≤ ((4611686018427387904 : Int64) - lN (sa (p ^ (j + 1) * q ^ d * vP T S l (S 1206 + 1 + j)))) then ck (gK M (B + 59) = 8) (ck (gK M (B + 59) = 8) (nm (sL M (B + 59) 29 ((gL M (B + 59) 29) + lN (sa (p ^ (j + 1) * q ^ d * vP T S l (S 1206 + 1 + j))))) fun M12 => f_X8_isTold_108 m (B + 59) (nI l) (nI n) (lN p) (lN q) (nI (j + 1 + 1)) M12)) else some ((0 : Int32), M))) := by
      rw [f_X8_isTold_108, if_neg (show ¬ nI n < nI (j + 1) by rw [nI_ltI (by omega) (by omega)]; omega), t1, bd_s, pk_sub (by omega), show n - (j + 1) = d by omega, t2, bd_s, t3, bd_s, ck_t k8, r17, bR_s, ck_t k10, ck_t k8, y6, nI_add, show S 1206 + (j + 1) = S 1206 + 1 + j by omega, pv, bd_s, t4, bd_s, show nI (j + 1) + 1 = nI (j + 1 + 1) from nI_1 _]
    rw [st]
    clear st t1 t2 t3 t4 pv
    generalize hv : p ^ (j + 1) * q ^ d * vP T S l (S 1206 + 1 + j) = v at *
    by_cases hc : v ≤ 4611686018427387904
    · rw [sa_id hc]
      have c1 : ¬ (4611686018427387904 : Int64) < lN v := by
        show ¬ lN 4611686018427387904 < lN v
        rw [pk_lLT (by omega) (by omega)]; omega
      by_cases hc2 : aH T S l p q j * q ^ (d + 1) ≤ 4611686018427387904 - v
      · have c2 : gL M (B + 59) 29 ≤ (4611686018427387904 : Int64) - lN v := by
          show M.2.1 (B + 59) 29 ≤ lN 4611686018427387904 - lN v
          rw [h1, lN_sub hc, pk_lLE (by omega) (by omega)]
          exact hc2
        have k1 : KU B M (sL M (B + 59) 29 (lN (aH T S l p q (j + 1) * q ^ d))) := KU.s (Or.inl rfl)
        obtain ⟨N, eN, n1, n2, n3⟩ := ih (j + 1) m (sL M (B + 59) 29 (lN (aH T S l p q (j + 1) * q ^ d))) (by omega) (by omega) (k1.rq hR) (k1.qr hA) sL_hit (by omega)
        refine ⟨N, ?_, k1.tr n1, n2, by rw [n3, sL_oth (by omega)]⟩
        rw [if_neg c1, ck_t k8, if_pos c2, ck_t k8, ck_t k8, nm_s, show gL M (B + 59) 29 = lN (aH T S l p q j * q ^ (d + 1)) from h1, lN_add, ← nx]
        exact eN
      · have c2 : ¬ gL M (B + 59) 29 ≤ (4611686018427387904 : Int64) - lN v := by
          show ¬ M.2.1 (B + 59) 29 ≤ lN 4611686018427387904 - lN v
          rw [h1, lN_sub hc, pk_lLE (by omega) (by omega)]
          exact hc2
        have big : ¬ aH T S l p q n ≤ 4611686018427387904 := by omega
        refine ⟨M, ?_, ⟨rfl, rfl, fun _ _ => rfl, fun _ _ _ => rfl⟩, fun h => absurd h big, rfl⟩
        rw [if_neg c1, ck_t k8, if_neg c2, if_neg big]
        rfl
    · have c1 : (4611686018427387904 : Int64) < lN (sa v) := by
        show lN 4611686018427387904 < lN (sa v)
        rw [pk_lLT (by omega) (by omega), sa_gt (by omega)]; omega
      have big : ¬ aH T S l p q n ≤ 4611686018427387904 := by omega
      refine ⟨M, ?_, ⟨rfl, rfl, fun _ _ => rfl, fun _ _ _ => rfl⟩, fun h => absurd h big, rfl⟩
      rw [if_pos c1, if_neg big]
      rfl
theorem q_told (hR : RQ B M T S c) (hl : l < T 0) (hA : QR B M T S l 0 0 0) (hy : S 1206 < T (12 + 7 * l + 3)) (h0 : ctS T S l 0 ≠ 0) {i : Nat} (hi : i ≤ 99) : ∃ N, f_X8_isTold (B + 59) (nI l) (nI i) M = some (if wU T S l i ≤ 4611686018427387904 then (if wA T S l i ≤ 4611686018427387904 then nI 1 else nI 0) else nI 0, N) ∧ KU B M N ∧ (wU T S l i ≤ 4611686018427387904 → wA T S l i ≤ 4611686018427387904 → N.2.1 (B + 59) 29 = lN (wA T S l i) ∧ N.2.1 (B + 59) 30 = lN (wU T S l i)) := by
  have w := (hR.2.2.2.1.2.2 l hl).2.2.2.2.2.2.1
  have y60 := hR.2.2.2.2.1.1
  have cx : ctS T S l 0 ≤ 60 := Nat.le_trans (fb_ct_le _ _) (hR.2.2.2.1.2.2 l hl).2.1
  have pq := pq_rng hi
  have g1 := Nat.gcd_pos_of_pos_left 100 (show 0 < 100 + i by omega)
  have g2 := Nat.gcd_le_left 100 (show 0 < 100 + i by omega)
  have cm := q_common (M := M) (x := 100) (y := 100 + i) (by omega) (by omega)
  have ne : ¬ lN (Nat.gcd (100 + i) 100) = (0 : Int64) := by
    show ¬ lN (Nat.gcd (100 + i) 100) = lN 0
    rw [pk_lEQ (by omega) (by omega)]; omega
  have k8 : gK M (B + 59) = 8 := hR.1.1
  have r17 : gR M (B + 59) 17 = some (B + 63) := by show M.2.2.1 (B + 59) 17 = _; simp only [hR.1]
  have k10 : gK M (B + 63) = 10 ∧ inb (1206 : Int32) (gN M (B + 63)) := ⟨by show M.2.2.2.1 (B + 63) = _; simp only [hR.1], by rw [show gN M (B + 63) = 1407 by show M.2.2.2.2.1 (B + 63) = _; simp only [hR.1]]; exact nI_in (c := 1206) (by omega) (by omega)⟩
  have y6 : gI M (B + 63) ((1206 : Int32)).toNatClampNeg = nI (S 1206) := by
    rw [show ((1206 : Int32)).toNatClampNeg = 1206 from nI_clamp (n := 1206) (by omega)]
    exact hR.2.2.1 1206 (by omega)
  have l3 := q_loanOf hR hl (w := 3) (by omega)
  have hm := q_howMany hR hl (st := 0) (by omega)
  have t1 := q_pow (M := M) (p := qOf i) (n := T (12 + 7 * l + 3) - S 1206) pq.2.2.1 pq.2.2.2 (by omega)
  have t2 := q_times (M := M) (qOf i ^ (T (12 + 7 * l + 3) - S 1206)) (ctS T S l 0)
  rw [show sa (ctS T S l 0) = ctS T S l 0 from sa_id (by omega), Nat.mul_comm (qOf i ^ (T (12 + 7 * l + 3) - S 1206)) (ctS T S l 0)] at t2
  have t2' : f_X8_times (lN (sa (qOf i ^ (T (12 + 7 * l + 3) - S 1206)))) (lN (ctS T S l 0)) M = some (lN (sa (wU T S l i)), M) := t2
  have la := sa_le (qOf i ^ (T (12 + 7 * l + 3) - S 1206))
  have lb := sa_le (wU T S l i)
  have st : f_X8_isTold (B + 59) (nI l) (nI i) M = f_X8_isTold_84 (B + 59) (nI l) (nI (T (12 + 7 * l + 3) - S 1206)) (lN (pOf i)) (lN (qOf i)) (lN (sa (wU T S l i))) (B + 59) M := by
    rw [f_X8_isTold, ck_t k8, show (3 : Int32) = nI 3 from rfl, l3, bd_s, ck_t k8, r17, bR_s, ck_t k10, nm_s, y6, pk_sub (by omega), nI_l (by omega), show (100 : Int64) = lN 100 from rfl, lN_add, cm, bd_s, ck_t ne, nm_s, pk_lDiv (by omega) g1 (by omega), ck_t ne, nm_s, pk_lDiv (by omega) g1 (by omega), show 100 / Nat.gcd (100 + i) 100 = pOf i from rfl, show (100 + i) / Nat.gcd (100 + i) 100 = qOf i from rfl, t1, bd_s]
    by_cases hc : sa (qOf i ^ (T (12 + 7 * l + 3) - S 1206)) ≤ 4611686018427387904
    · rw [if_pos (show lN (sa (qOf i ^ (T (12 + 7 * l + 3) - S 1206))) ≤ (4611686018427387904 : Int64) by show _ ≤ lN 4611686018427387904; rw [pk_lLE (by omega) (by omega)]; exact hc), ck_t k8, show (0 : Int32) = nI 0 from rfl, hm, bd_s, nI_l (by omega), t2', bd_s]
    · rw [if_neg (show ¬ lN (sa (qOf i ^ (T (12 + 7 * l + 3) - S 1206))) ≤ (4611686018427387904 : Int64) by show ¬ _ ≤ lN 4611686018427387904; rw [pk_lLE (by omega) (by omega)]; exact hc)]
      have e : sa (qOf i ^ (T (12 + 7 * l + 3) - S 1206)) = sa (wU T S l i) := by
        have h1 : 4611686018427387904 < qOf i ^ (T (12 + 7 * l + 3) - S 1206) := Nat.lt_of_not_le (fun h => hc (sa_iff.mpr h))
        have h2 : qOf i ^ (T (12 + 7 * l + 3) - S 1206) ≤ wU T S l i := Nat.le_mul_of_pos_left _ (by omega)
        rw [sa_gt h1, sa_gt (by omega)]
      rw [e]
  rw [st]
  clear st t1 t2 t2' cm l3 hm
  have k1 : KU B M (sL M (B + 59) 30 (lN (sa (wU T S l i)))) := KU.s (Or.inr rfl)
  have e30 : gL (sL M (B + 59) 30 (lN (sa (wU T S l i)))) (B + 59) 30 = lN (sa (wU T S l i)) := sL_hit
  have k8b : gK (sL M (B + 59) 30 (lN (sa (wU T S l i)))) (B + 59) = 8 := k8
  by_cases hu : wU T S l i ≤ 4611686018427387904
  · have k2 : KU B (sL M (B + 59) 30 (lN (sa (wU T S l i)))) (sL (sL M (B + 59) 30 (lN (sa (wU T S l i)))) (B + 59) 29 (lN 0)) := KU.s (Or.inl rfl)
    have k12 := k1.tr k2
    obtain ⟨N, eN, n1, n2, n3⟩ := q_told_lp (B := B) (c := c) (S := S) hl (p := pOf i) (q := qOf i) (n := T (12 + 7 * l + 3) - S 1206) pq.1 pq.2.1 pq.2.2.1 pq.2.2.2 (by omega) (T (12 + 7 * l + 3) - S 1206) 0 FU (sL (sL M (B + 59) 30 (lN (sa (wU T S l i)))) (B + 59) 29 (lN 0)) (by omega) (by unfold FU; omega) (k12.rq hR) (k12.qr hA) (by rw [aH, Nat.zero_mul]; exact sL_hit) (by rw [aH, Nat.zero_mul]; omega)
    refine ⟨N, ?_, k12.tr n1, fun _ ha => ⟨n2 ha, ?_⟩⟩
    · rw [if_pos hu, f_X8_isTold_84, ck_t k8, nm_s, ck_t k8b, e30, if_pos (show lN (sa (wU T S l i)) ≤ (4611686018427387904 : Int64) by show _ ≤ lN 4611686018427387904; rw [pk_lLE (by omega) (by omega)]; exact sa_iff.mpr hu), ck_t k8b, nm_s]
      exact eN
    · rw [n3, sL_oth (by omega), sL_hit, sa_id hu]
  · refine ⟨sL M (B + 59) 30 (lN (sa (wU T S l i))), ?_, k1, fun h => absurd h hu⟩
    rw [if_neg hu, f_X8_isTold_84, ck_t k8, nm_s, ck_t k8b, e30, if_neg (show ¬ lN (sa (wU T S l i)) ≤ (4611686018427387904 : Int64) by show ¬ _ ≤ lN 4611686018427387904; rw [pk_lLE (by omega) (by omega)]; exact fun h => hu (sa_iff.mp h))]
    rfl
theorem st_years (hR : RQ B M T S c) (hl : l < T 0) (h0 : ctS T S l 0 ≠ 0) : S 1206 < T (12 + 7 * l + 3) := by
  refine Nat.lt_of_not_le (fun hge => h0 (fb_ct_zero.mpr (fun k hk => ?_)))
  exact decide_eq_false ((hR.2.2.2.2.1.2.2.2.2.1 l hl k hk).2.2.2.2.2.2.2.1 hge)
theorem KW.kc (n1 : KO B M N) (k : KW B N P) : KC B M P := ⟨by rw [k.2.1, n1.1], fun a ha => by rw [k.1]; exact n1.2 a (by omega), by rw [k.2.2 _ (by omega), n1.1]⟩
theorem KU.r (k : KU B N P) : KR B N P := ⟨k.2.1, fun a _ _ _ => by rw [k.1], by rw [k.1], by rw [k.1], k.2.2.1 B (by omega)⟩
theorem pr_worth (hcc : c + 1 ≤ 600) : Pr B c (f_X7_worth B x y) (f_X8_worth (B + 59) x y) := by
  refine pr_q hcc (fun M t T S hQ hR ht => ?_)
  have w0 := hR.2.2.2.1.1
  have hR2 := hR.th (j := 0) (v := nI 0)
  rcases ixL y (n := 99 + 1) (by omega) with h | ⟨i, hi, rfl⟩
  · have iw : ∀ M : Mm, f_X8_within y.toInt64 (lN 0) (lN 99) M = some (nI 0, M) := fun M => wi_n (by omega) h
    have e1 : f_X7_worth B x y M = some (-1, M) := by
      rcases h with h | ⟨h1, h2⟩
      · simp (disch := omega) only [f_X7_worth, reduceIte, ↓reduceIte, ↓ck_i, ↓nm_s, ↓bR_i, ↓bd_i, Option.isSome_some, Option.getD_some, gK, gR, gN, gIs, inb_nI, and_self, nI_clamp, fa_lit, pk_mul, nI_add, n10, n1z, n00, eq_self, not_true_eq_false, not_false_eq_true, h]
      · have h3 : nI 99 < y := by
          rw [fa_lt, nI_toInt (by omega)]; rw [fa_le, nI_toInt (by omega)] at h2; omega
        simp (disch := omega) only [f_X7_worth, reduceIte, ↓reduceIte, ↓ck_i, ↓nm_s, ↓bR_i, ↓bd_i, Option.isSome_some, Option.getD_some, gK, gR, gN, gIs, inb_nI, and_self, nI_clamp, fa_lit, pk_mul, nI_add, n10, n1z, n00, eq_self, not_true_eq_false, not_false_eq_true, h1, h3]
    refine ⟨-1, M, e1, KC.rf, fun _ hR2 hb => ⟨sI M (B + 59) 0 (nI 0), ?_, KR.th (by omega) (by omega), hb⟩⟩
    rcases ixL x (n := T 0) (by omega) with h | ⟨l, hl, rfl⟩
    · simp (disch := omega) only [f_X8_worth, reduceIte, ↓reduceIte, ↓ck_i, ↓nm_s, ↓bR_i, ↓bd_i, Option.isSome_some, Option.getD_some, gK, gR, gN, gIs, inb_nI, and_self, nI_clamp, fa_lit, pk_mul, nI_add, n10, n1z, n00, eq_self, not_true_eq_false, not_false_eq_true, hR.1, hR2.1, q_has_0 hR2 h]
    · by_cases h0 : ctS T S l 0 = 0
      · have hq := q_has hR2 hl
        rw [if_pos h0] at hq
        simp (disch := omega) only [f_X8_worth, reduceIte, ↓reduceIte, ↓ck_i, ↓nm_s, ↓bR_i, ↓bd_i, Option.isSome_some, Option.getD_some, gK, gR, gN, gIs, inb_nI, and_self, nI_clamp, fa_lit, pk_mul, nI_add, n10, n1z, n00, eq_self, not_true_eq_false, not_false_eq_true, hR.1, hR2.1, hq]
      · have hq := q_has hR2 hl
        rw [if_neg h0] at hq
        simp (disch := omega) only [f_X8_worth, reduceIte, ↓reduceIte, ↓ck_i, ↓nm_s, ↓bR_i, ↓bd_i, Option.isSome_some, Option.getD_some, gK, gR, gN, gIs, inb_nI, and_self, nI_clamp, fa_lit, pk_mul, nI_add, n10, n1z, n00, eq_self, not_true_eq_false, not_false_eq_true, hR.1, hR2.1, hq, fa_litL, iw]
  have b1 : ¬ i < 0 := by omega
  have b2 : ¬ 99 < i := by omega
  rcases ixL x (n := T 0) (by omega) with h | ⟨l, hl, rfl⟩
  · exact ⟨-1, M, by simp (disch := omega) only [f_X7_worth, reduceIte, ↓reduceIte, ↓ck_i, ↓nm_s, ↓bR_i, ↓bd_i, Option.isSome_some, Option.getD_some, gK, gR, gN, gIs, inb_nI, and_self, nI_clamp, fa_lit, pk_mul, nI_add, n10, n1z, n00, eq_self, not_true_eq_false, not_false_eq_true, hQ.1, nI_ltI, b1, b2, p_fst_0 hQ h], KC.rf, fun _ hR2 hb => ⟨sI M (B + 59) 0 (nI 0), by simp (disch := omega) only [f_X8_worth, reduceIte, ↓reduceIte, ↓ck_i, ↓nm_s, ↓bR_i, ↓bd_i, Option.isSome_some, Option.getD_some, gK, gR, gN, gIs, inb_nI, and_self, nI_clamp, fa_lit, pk_mul, nI_add, n10, n1z, n00, eq_self, not_true_eq_false, not_false_eq_true, hR.1, hR2.1, q_has_0 hR2 h], KR.th (by omega) (by omega), hb⟩⟩
  obtain ⟨N, eN, n1, n2, n3⟩ := p_fst hQ ht hl
  have hQN := n1.cq hQ ht
  by_cases h0 : ctS T S l 0 = 0
  · rw [if_pos h0] at eN
    refine ⟨-1, N, by simp (disch := omega) only [f_X7_worth, reduceIte, ↓reduceIte, ↓ck_i, ↓nm_s, ↓bR_i, ↓bd_i, Option.isSome_some, Option.getD_some, gK, gR, gN, gIs, inb_nI, and_self, nI_clamp, fa_lit, pk_mul, nI_add, n10, n1z, n00, eq_self, not_true_eq_false, not_false_eq_true, nI_ltI, b1, b2, hQ.1, eN], n1.c, fun hRN hR2 hb => ⟨sI N (B + 59) 0 (nI 0), ?_, KR.th (by omega) (by omega), by rw [sI_r, n1.1]; exact hb⟩⟩
    have hq := q_has hR2 hl
    rw [if_pos h0] at hq
    simp (disch := omega) only [f_X8_worth, reduceIte, ↓reduceIte, ↓ck_i, ↓nm_s, ↓bR_i, ↓bd_i, Option.isSome_some, Option.getD_some, gK, gR, gN, gIs, inb_nI, and_self, nI_clamp, fa_lit, pk_mul, nI_add, n10, n1z, n00, eq_self, not_true_eq_false, not_false_eq_true, hRN.1, hR2.1, hq]
  · rw [if_neg h0] at eN
    have hy := st_years hR hl h0
    obtain ⟨N2, eN2, m1, m2⟩ := p_weigh hQN hl n2 n3 hy (i := i) (by omega)
    have hQ2 := m1.cq hQN
    have told : ∀ {P0 : Mm}, RQ B P0 T S c → QR B P0 T S l 0 0 0 → ∃ N, f_X8_isTold (B + 59) (nI l) (nI i) P0 = some (if wU T S l i ≤ 4611686018427387904 then (if wA T S l i ≤ 4611686018427387904 then nI 1 else nI 0) else nI 0, N) ∧ KU B P0 N ∧ (wU T S l i ≤ 4611686018427387904 → wA T S l i ≤ 4611686018427387904 → N.2.1 (B + 59) 29 = lN (wA T S l i) ∧ N.2.1 (B + 59) 30 = lN (wU T S l i)) := fun h1 h2 => q_told h1 hl h2 hy h0 (by omega)
    by_cases ok : wU T S l i ≤ 4611686018427387904 ∧ wA T S l i ≤ 4611686018427387904
    · obtain ⟨v1, v2⟩ := m2 ok.1 ok.2
      rw [if_pos ok.1, if_pos ok.2] at eN2
      have up : 0 < wU T S l i := Nat.mul_pos (by omega) (Nat.pow_pos (pq_rng (i := i) (by omega)).2.2.1)
      have t1 := p_tell (B := B) (x := wA T S l i) (y := wU T S l i) (M := N2) hQ2.1.1 (by omega) up (by omega)
      have e1 : f_X7_worth B (nI l) (nI i) M = f_X7_tell B (lN (wA T S l i)) (lN (wU T S l i)) N2 := by
        rw [t1]
        simp (disch := omega) only [f_X7_worth, reduceIte, ↓reduceIte, ↓ck_i, ↓nm_s, ↓bR_i, ↓bd_i, Option.isSome_some, Option.getD_some, gK, gR, gN, gIs, inb_nI, and_self, nI_clamp, fa_lit, pk_mul, nI_add, n10, n1z, n00, eq_self, not_true_eq_false, not_false_eq_true, nI_ltI, b1, b2, hQ.1, hQN.1, hQ2.1, eN, eN2, gL, v1, v2, t1]
      rw [t1] at e1
      have kc := KW.kc n1 m1
      refine ⟨_, _, e1, ⟨kc.1, fun a ha => by rw [sL_1]; exact kc.2.1 a ha, by rw [sL_ne (by omega)]; exact kc.2.2⟩, fun hRN hR2 hb => ?_⟩
      obtain ⟨P, eP, p1, p2⟩ := q_tells0 hR2 hl
      have hRP := p1.rq hR2
      obtain ⟨P2, eP2, u1, u2⟩ := told hRP p2
      obtain ⟨z1, z2⟩ := u2 ok.1 ok.2
      rw [if_pos ok.1, if_pos ok.2] at eP2
      have hRP2 := u1.rq hRP
      have hq := q_has hR2 hl
      rw [if_neg h0] at hq
      have t2 := q_least (B := B) (x := wA T S l i) (y := wU T S l i) (M := P2) hRP2.1.1 (by omega) up (by omega)
      refine ⟨sL P2 (B + 59) 28 (lN (wU T S l i / Nat.gcd (wU T S l i) (wA T S l i))), ?_, fr_r (((KR.th (j := 0) (v := nI 0) (by omega) (by omega)).tr p1.r).tr u1.r), ?_⟩
      · rw [← t2]
        simp (disch := omega) only [f_X8_worth, reduceIte, ↓reduceIte, ↓ck_i, ↓nm_s, ↓bR_i, ↓bd_i, Option.isSome_some, Option.getD_some, gK, gR, gN, gIs, inb_nI, and_self, nI_clamp, fa_lit, pk_mul, nI_add, n10, n1z, n00, eq_self, not_true_eq_false, not_false_eq_true, hRN.1, hR2.1, hRP.1, hRP2.1, hq, fa_litL, wi_y (n := 99), eP, eP2, gL, z1, z2, t2]
      · rw [sL_ne (by omega), sL_hit, u1.2.2.1 B (by omega), p1.1, sI_r]
        exact sL_hit
    · have e2 : (if wU T S l i ≤ 4611686018427387904 then (if wA T S l i ≤ 4611686018427387904 then nI 1 else nI 0) else nI 0) = nI 0 := by
        by_cases h1 : wU T S l i ≤ 4611686018427387904
        · rw [if_pos h1, if_neg (fun h2 => ok ⟨h1, h2⟩)]
        · rw [if_neg h1]
      rw [e2] at eN2
      refine ⟨-2, N2, by simp (disch := omega) only [f_X7_worth, reduceIte, ↓reduceIte, ↓ck_i, ↓nm_s, ↓bR_i, ↓bd_i, Option.isSome_some, Option.getD_some, gK, gR, gN, gIs, inb_nI, and_self, nI_clamp, fa_lit, pk_mul, nI_add, n10, n1z, n00, eq_self, not_true_eq_false, not_false_eq_true, nI_ltI, b1, b2, hQ.1, hQN.1, hQ2.1, eN, eN2], KW.kc n1 m1, fun hRN hR2 hb => ?_⟩
      obtain ⟨P, eP, p1, p2⟩ := q_tells0 hR2 hl
      have hRP := p1.rq hR2
      obtain ⟨P2, eP2, u1, u2⟩ := told hRP p2
      rw [e2] at eP2
      have hRP2 := u1.rq hRP
      have hq := q_has hR2 hl
      rw [if_neg h0] at hq
      refine ⟨P2, ?_, ((KR.th (j := 0) (v := nI 0) (by omega) (by omega)).tr p1.r).tr u1.r, ?_⟩
      · simp (disch := omega) only [f_X8_worth, reduceIte, ↓reduceIte, ↓ck_i, ↓nm_s, ↓bR_i, ↓bd_i, Option.isSome_some, Option.getD_some, gK, gR, gN, gIs, inb_nI, and_self, nI_clamp, fa_lit, pk_mul, nI_add, n10, n1z, n00, eq_self, not_true_eq_false, not_false_eq_true, hRN.1, hR2.1, hRP.1, hRP2.1, hq, fa_litL, wi_y (n := 99), eP, eP2]
      · rw [u1.2.2.1 B (by omega), u1.2.2.2 28 (by omega) (by omega), p1.1, sI_r, m1.2.2 B (by omega), m1.2.2 (B + 59) (by omega), n1.1]
        exact hb
/-- the greatest i below m that reaches a price -/
def yR (T S : Nat → Nat) (l pr : Nat) : Nat → Int32
  | 0 => -nI 2
  | m + 1 => if (wU T S l m ≤ 4611686018427387904 ∧ wA T S l m ≤ 4611686018427387904) ∧ pr ≤ wA T S l m / wU T S l m then nI m else yR T S l pr m
theorem m1_add (m : Nat) : nI m + -nI 1 = nI m - nI 1 := (Int32.sub_eq_add_neg (nI m) (nI 1)).symm
theorem p_yields_lp (hl : l < T 0) (hy : S 1206 < T (12 + 7 * l + 3)) (h0 : ctS T S l 0 ≠ 0) {pr : Nat} (hpr : pr ≤ 99999) : ∀ (m n : Nat) (M : Mm), m ≤ 100 → m < n → CQ B t M T S c → RO B M T S l → RR B M T S l 0 0 0 → ∃ N, f_X7_yields_24 n B (nI pr) (nI m - nI 1) M = some (yR T S l pr m, N) ∧ KW B M N := by
  intro m
  induction m with
  | zero =>
    intro n M hm hn hQ hO hA
    obtain ⟨n, rfl⟩ : ∃ q, n = q + 1 := ⟨n - 1, by omega⟩
    refine ⟨M, ?_, ⟨rfl, rfl, fun _ _ => rfl⟩⟩
    simp (disch := omega) only [f_X7_yields_24, reduceIte, ↓reduceIte, ↓ck_i, ↓nm_s, ↓bR_i, ↓bd_i, Option.isSome_some, Option.getD_some, gK, gR, gN, gIs, inb_nI, and_self, nI_clamp, fa_lit, pk_mul, nI_add, n10, n1z, n00, eq_self, not_true_eq_false, not_false_eq_true, neg1_lt, yR]
  | succ m ih =>
    intro n M hm hn hQ hO hA
    obtain ⟨n, rfl⟩ : ∃ q, n = q + 1 := ⟨n - 1, by omega⟩
    obtain ⟨N, eN, n1, n2⟩ := p_weigh hQ hl hO hA hy (i := m) (by omega)
    have hQN := n1.cq hQ
    obtain ⟨P, eP, p1⟩ := ih n N (by omega) (by omega) hQN (n1.ro hO) (n1.rr hA)
    have e0 : ¬ m < 0 := by omega
    by_cases ok : wU T S l m ≤ 4611686018427387904 ∧ wA T S l m ≤ 4611686018427387904
    · obtain ⟨v1, v2⟩ := n2 ok.1 ok.2
      rw [if_pos ok.1, if_pos ok.2] at eN
      have up : 0 < wU T S l m := Nat.mul_pos (by omega) (Nat.pow_pos (pq_rng (i := m) (by omega)).2.2.1)
      have nu : ¬ wU T S l m ≤ 0 := by omega
      have nz : ¬ lN (wU T S l m) = lN 0 := by rw [pk_lEQ (by omega) (by omega)]; omega
      have dl : wA T S l m / wU T S l m ≤ wA T S l m := Nat.div_le_self _ _
      by_cases hc : pr ≤ wA T S l m / wU T S l m
      · have hc2 : ¬ wA T S l m / wU T S l m < pr := by omega
        have er : f_X0_reaches (B + 55) (nI pr) N = some (nI 1, N) := by
          simp (disch := omega) only [f_X0_reaches, reduceIte, ↓reduceIte, ↓ck_i, ↓nm_s, ↓bR_i, ↓bd_i, Option.isSome_some, Option.getD_some, gK, gR, gN, gIs, inb_nI, and_self, nI_clamp, fa_lit, pk_mul, nI_add, n10, n1z, n00, eq_self, not_true_eq_false, not_false_eq_true, hQN.1, gL, v1, v2, fa_litL, pk_lLE, nu, nz, pk_lDiv, nI_l, pk_lLT, hc2]
        refine ⟨N, ?_, n1⟩
        rw [yR, if_pos ⟨ok, hc⟩]
        simp (disch := omega) only [f_X7_yields_24, reduceIte, ↓reduceIte, ↓ck_i, ↓nm_s, ↓bR_i, ↓bd_i, Option.isSome_some, Option.getD_some, gK, gR, gN, gIs, inb_nI, and_self, nI_clamp, fa_lit, pk_mul, nI_add, n10, n1z, n00, eq_self, not_true_eq_false, not_false_eq_true, pk_sub, Nat.add_sub_cancel, nI_ltI, e0, hQ.1, hQN.1, eN, er]
      · have hc2 : wA T S l m / wU T S l m < pr := by omega
        have er : f_X0_reaches (B + 55) (nI pr) N = some (nI 0, N) := by
          simp (disch := omega) only [f_X0_reaches, reduceIte, ↓reduceIte, ↓ck_i, ↓nm_s, ↓bR_i, ↓bd_i, Option.isSome_some, Option.getD_some, gK, gR, gN, gIs, inb_nI, and_self, nI_clamp, fa_lit, pk_mul, nI_add, n10, n1z, n00, eq_self, not_true_eq_false, not_false_eq_true, hQN.1, gL, v1, v2, fa_litL, pk_lLE, nu, nz, pk_lDiv, nI_l, pk_lLT, hc2]
        refine ⟨P, ?_, n1.tr p1⟩
        rw [yR, if_neg (fun q => hc q.2), ← eP]
        have es : nI (m + 1) - nI 1 = nI m := by rw [pk_sub (by omega), Nat.add_sub_cancel]
        rw [es]
        simp (disch := omega) only [f_X7_yields_24, reduceIte, ↓reduceIte, ↓ck_i, ↓nm_s, ↓bR_i, ↓bd_i, Option.isSome_some, Option.getD_some, gK, gR, gN, gIs, inb_nI, and_self, nI_clamp, fa_lit, pk_mul, nI_add, n10, n1z, n00, eq_self, not_true_eq_false, not_false_eq_true, nI_ltI, e0, hQ.1, hQN.1, eN, er, m1_add]
    · have e2 : (if wU T S l m ≤ 4611686018427387904 then (if wA T S l m ≤ 4611686018427387904 then nI 1 else nI 0) else nI 0) = nI 0 := by
        by_cases h1 : wU T S l m ≤ 4611686018427387904
        · rw [if_pos h1, if_neg (fun h2 => ok ⟨h1, h2⟩)]
        · rw [if_neg h1]
      rw [e2] at eN
      refine ⟨P, ?_, n1.tr p1⟩
      rw [yR, if_neg (fun q => ok q.1), ← eP]
      have es : nI (m + 1) - nI 1 = nI m := by rw [pk_sub (by omega), Nat.add_sub_cancel]
      rw [es]
      simp (disch := omega) only [f_X7_yields_24, reduceIte, ↓reduceIte, ↓ck_i, ↓nm_s, ↓bR_i, ↓bd_i, Option.isSome_some, Option.getD_some, gK, gR, gN, gIs, inb_nI, and_self, nI_clamp, fa_lit, pk_mul, nI_add, n10, n1z, n00, eq_self, not_true_eq_false, not_false_eq_true, nI_ltI, e0, hQ.1, hQN.1, eN, m1_add]
theorem q_yields_lp (hl : l < T 0) (hy : S 1206 < T (12 + 7 * l + 3)) (h0 : ctS T S l 0 ≠ 0) {pr : Nat} (hpr : pr ≤ 99999) : ∀ (m n : Nat) (M : Mm), m ≤ 100 → m < n → RQ B M T S c → QR B M T S l 0 0 0 → ∃ N, f_X8_yields_35 n (B + 59) (nI l) (nI pr) (nI m - nI 1) M = some (yR T S l pr m, N) ∧ KU B M N := by
  intro m
  induction m with
  | zero =>
    intro n M hm hn hR hA
    obtain ⟨n, rfl⟩ : ∃ q, n = q + 1 := ⟨n - 1, by omega⟩
    refine ⟨M, ?_, ⟨rfl, rfl, fun _ _ => rfl, fun _ _ _ => rfl⟩⟩
    simp (disch := omega) only [f_X8_yields_35, reduceIte, ↓reduceIte, ↓ck_i, ↓nm_s, ↓bR_i, ↓bd_i, Option.isSome_some, Option.getD_some, gK, gR, gN, gIs, inb_nI, and_self, nI_clamp, fa_lit, pk_mul, nI_add, n10, n1z, n00, eq_self, not_true_eq_false, not_false_eq_true, neg1_lt, yR]
  | succ m ih =>
    intro n M hm hn hR hA
    obtain ⟨n, rfl⟩ : ∃ q, n = q + 1 := ⟨n - 1, by omega⟩
    obtain ⟨N, eN, n1, n2⟩ := q_told hR hl hA hy h0 (i := m) (by omega)
    have hRN := n1.rq hR
    obtain ⟨P, eP, p1⟩ := ih n N (by omega) (by omega) hRN (n1.qr hA)
    have e0 : ¬ m < 0 := by omega
    have es : nI (m + 1) - nI 1 = nI m := by rw [pk_sub (by omega), Nat.add_sub_cancel]
    by_cases ok : wU T S l m ≤ 4611686018427387904 ∧ wA T S l m ≤ 4611686018427387904
    · obtain ⟨v1, v2⟩ := n2 ok.1 ok.2
      rw [if_pos ok.1, if_pos ok.2] at eN
      have up : 0 < wU T S l m := Nat.mul_pos (by omega) (Nat.pow_pos (pq_rng (i := m) (by omega)).2.2.1)
      have nz : ¬ lN (wU T S l m) = lN 0 := by rw [pk_lEQ (by omega) (by omega)]; omega
      have dl : wA T S l m / wU T S l m ≤ wA T S l m := Nat.div_le_self _ _
      by_cases hc : pr ≤ wA T S l m / wU T S l m
      · have hc2 : ¬ wA T S l m / wU T S l m < pr := by omega
        refine ⟨N, ?_, n1⟩
        rw [yR, if_pos ⟨ok, hc⟩, es]
        simp (disch := omega) only [f_X8_yields_35, reduceIte, ↓reduceIte, ↓ck_i, ↓nm_s, ↓bR_i, ↓bd_i, Option.isSome_some, Option.getD_some, gK, gR, gN, gIs, inb_nI, and_self, nI_clamp, fa_lit, pk_mul, nI_add, n10, n1z, n00, eq_self, not_true_eq_false, not_false_eq_true, nI_ltI, e0, hR.1, hRN.1, eN, gL, v1, v2, fa_litL, nz, pk_lDiv, nI_l, pk_lLT, hc2]
      · have hc2 : wA T S l m / wU T S l m < pr := by omega
        refine ⟨P, ?_, n1.tr p1⟩
        rw [yR, if_neg (fun q => hc q.2), ← eP, es]
        simp (disch := omega) only [f_X8_yields_35, reduceIte, ↓reduceIte, ↓ck_i, ↓nm_s, ↓bR_i, ↓bd_i, Option.isSome_some, Option.getD_some, gK, gR, gN, gIs, inb_nI, and_self, nI_clamp, fa_lit, pk_mul, nI_add, n10, n1z, n00, eq_self, not_true_eq_false, not_false_eq_true, nI_ltI, e0, hR.1, hRN.1, eN, gL, v1, v2, fa_litL, nz, pk_lDiv, nI_l, pk_lLT, hc2, m1_add]
    · have e2 : (if wU T S l m ≤ 4611686018427387904 then (if wA T S l m ≤ 4611686018427387904 then nI 1 else nI 0) else nI 0) = nI 0 := by
        by_cases h1 : wU T S l m ≤ 4611686018427387904
        · rw [if_pos h1, if_neg (fun h2 => ok ⟨h1, h2⟩)]
        · rw [if_neg h1]
      rw [e2] at eN
      refine ⟨P, ?_, n1.tr p1⟩
      rw [yR, if_neg (fun q => ok q.1), ← eP, es]
      simp (disch := omega) only [f_X8_yields_35, reduceIte, ↓reduceIte, ↓ck_i, ↓nm_s, ↓bR_i, ↓bd_i, Option.isSome_some, Option.getD_some, gK, gR, gN, gIs, inb_nI, and_self, nI_clamp, fa_lit, pk_mul, nI_add, n10, n1z, n00, eq_self, not_true_eq_false, not_false_eq_true, nI_ltI, e0, hR.1, hRN.1, eN, m1_add]
theorem pr_yields (hcc : c + 1 ≤ 600) : Pr B c (f_X7_yields B x y) (f_X8_yields (B + 59) x y) := by
  refine pr_q hcc (fun M t T S hQ hR ht => ?_)
  have w0 := hR.2.2.2.1.1
  rcases ixN y (n := 99999) (by omega) with h | ⟨i, hi, rfl⟩
  · have iw : ∀ M : Mm, f_X8_within y.toInt64 (lN 1) (lN 99999) M = some (nI 0, M) := fun M => wi1_n (by omega) h
    have e1 : f_X7_yields B x y M = some (-nI 1, M) := by
      rcases h with h | ⟨h1, h2⟩
      · simp (disch := omega) only [f_X7_yields, reduceIte, ↓reduceIte, ↓ck_i, ↓nm_s, ↓bR_i, ↓bd_i, Option.isSome_some, Option.getD_some, gK, gR, gN, gIs, inb_nI, and_self, nI_clamp, fa_lit, pk_mul, nI_add, n10, n1z, n00, eq_self, not_true_eq_false, not_false_eq_true, h]
      · simp (disch := omega) only [f_X7_yields, reduceIte, ↓reduceIte, ↓ck_i, ↓nm_s, ↓bR_i, ↓bd_i, Option.isSome_some, Option.getD_some, gK, gR, gN, gIs, inb_nI, and_self, nI_clamp, fa_lit, pk_mul, nI_add, n10, n1z, n00, eq_self, not_true_eq_false, not_false_eq_true, h1, h2]
    refine ⟨-nI 1, M, e1, KC.rf, fun _ hR2 hb => ⟨sI M (B + 59) 0 (nI 0), ?_, KR.th (by omega) (by omega), hb⟩⟩
    rcases ixL x (n := T 0) (by omega) with h | ⟨l, hl, rfl⟩
    · simp (disch := omega) only [f_X8_yields, reduceIte, ↓reduceIte, ↓ck_i, ↓nm_s, ↓bR_i, ↓bd_i, Option.isSome_some, Option.getD_some, gK, gR, gN, gIs, inb_nI, and_self, nI_clamp, fa_lit, pk_mul, nI_add, n10, n1z, n00, eq_self, not_true_eq_false, not_false_eq_true, hR.1, hR2.1, q_has_0 hR2 h]
    · by_cases h0 : ctS T S l 0 = 0
      · have hq := q_has hR2 hl
        rw [if_pos h0] at hq
        simp (disch := omega) only [f_X8_yields, reduceIte, ↓reduceIte, ↓ck_i, ↓nm_s, ↓bR_i, ↓bd_i, Option.isSome_some, Option.getD_some, gK, gR, gN, gIs, inb_nI, and_self, nI_clamp, fa_lit, pk_mul, nI_add, n10, n1z, n00, eq_self, not_true_eq_false, not_false_eq_true, hR.1, hR2.1, hq]
      · have hq := q_has hR2 hl
        rw [if_neg h0] at hq
        simp (disch := omega) only [f_X8_yields, reduceIte, ↓reduceIte, ↓ck_i, ↓nm_s, ↓bR_i, ↓bd_i, Option.isSome_some, Option.getD_some, gK, gR, gN, gIs, inb_nI, and_self, nI_clamp, fa_lit, pk_mul, nI_add, n10, n1z, n00, eq_self, not_true_eq_false, not_false_eq_true, hR.1, hR2.1, hq, fa_litL, iw]
  have b1 : ¬ i + 1 < 1 := by omega
  have b2 : ¬ 99999 < i + 1 := by omega
  rcases ixL x (n := T 0) (by omega) with h | ⟨l, hl, rfl⟩
  · exact ⟨-nI 1, M, by simp (disch := omega) only [f_X7_yields, reduceIte, ↓reduceIte, ↓ck_i, ↓nm_s, ↓bR_i, ↓bd_i, Option.isSome_some, Option.getD_some, gK, gR, gN, gIs, inb_nI, and_self, nI_clamp, fa_lit, pk_mul, nI_add, n10, n1z, n00, eq_self, not_true_eq_false, not_false_eq_true, hQ.1, nI_ltI, b1, b2, p_fst_0 hQ h], KC.rf, fun _ hR2 hb => ⟨sI M (B + 59) 0 (nI 0), by simp (disch := omega) only [f_X8_yields, reduceIte, ↓reduceIte, ↓ck_i, ↓nm_s, ↓bR_i, ↓bd_i, Option.isSome_some, Option.getD_some, gK, gR, gN, gIs, inb_nI, and_self, nI_clamp, fa_lit, pk_mul, nI_add, n10, n1z, n00, eq_self, not_true_eq_false, not_false_eq_true, hR.1, hR2.1, q_has_0 hR2 h], KR.th (by omega) (by omega), hb⟩⟩
  obtain ⟨N, eN, n1, n2, n3⟩ := p_fst hQ ht hl
  have hQN := n1.cq hQ ht
  by_cases h0 : ctS T S l 0 = 0
  · rw [if_pos h0] at eN
    refine ⟨-nI 1, N, by simp (disch := omega) only [f_X7_yields, reduceIte, ↓reduceIte, ↓ck_i, ↓nm_s, ↓bR_i, ↓bd_i, Option.isSome_some, Option.getD_some, gK, gR, gN, gIs, inb_nI, and_self, nI_clamp, fa_lit, pk_mul, nI_add, n10, n1z, n00, eq_self, not_true_eq_false, not_false_eq_true, nI_ltI, b1, b2, hQ.1, eN], n1.c, fun hRN hR2 hb => ⟨sI N (B + 59) 0 (nI 0), ?_, KR.th (by omega) (by omega), by rw [sI_r, n1.1]; exact hb⟩⟩
    have hq := q_has hR2 hl
    rw [if_pos h0] at hq
    simp (disch := omega) only [f_X8_yields, reduceIte, ↓reduceIte, ↓ck_i, ↓nm_s, ↓bR_i, ↓bd_i, Option.isSome_some, Option.getD_some, gK, gR, gN, gIs, inb_nI, and_self, nI_clamp, fa_lit, pk_mul, nI_add, n10, n1z, n00, eq_self, not_true_eq_false, not_false_eq_true, hRN.1, hR2.1, hq]
  · rw [if_neg h0] at eN
    have hy := st_years hR hl h0
    obtain ⟨N2, eN2, m1⟩ := p_yields_lp (B := B) (t := t) (c := c) hl hy h0 (pr := i + 1) (by omega) 100 FU N (by omega) (by unfold FU; omega) hQN n2 n3
    rw [pk_sub (by omega)] at eN2
    have e1 : f_X7_yields B (nI l) (nI (i + 1)) M = some (yR T S l (i + 1) 100, N2) := by
      rw [← eN2]
      simp (disch := omega) only [f_X7_yields, reduceIte, ↓reduceIte, ↓ck_i, ↓nm_s, ↓bR_i, ↓bd_i, Option.isSome_some, Option.getD_some, gK, gR, gN, gIs, inb_nI, and_self, nI_clamp, fa_lit, pk_mul, nI_add, n10, n1z, n00, eq_self, not_true_eq_false, not_false_eq_true, nI_ltI, b1, b2, hQ.1, eN]
    refine ⟨_, _, e1, KW.kc n1 m1, fun hRN hR2 hb => ?_⟩
    obtain ⟨P, eP, p1, p2⟩ := q_tells0 hR2 hl
    have hRP := p1.rq hR2
    obtain ⟨P2, eP2, u1⟩ := q_yields_lp (B := B) (c := c) hl hy h0 (pr := i + 1) (by omega) 100 FU P (by omega) (by unfold FU; omega) hRP p2
    rw [pk_sub (by omega)] at eP2
    have hq := q_has hR2 hl
    rw [if_neg h0] at hq
    refine ⟨P2, ?_, ((KR.th (j := 0) (v := nI 0) (by omega) (by omega)).tr p1.r).tr u1.r, ?_⟩
    · rw [← eP2]
      simp (disch := omega) only [f_X8_yields, reduceIte, ↓reduceIte, ↓ck_i, ↓nm_s, ↓bR_i, ↓bd_i, Option.isSome_some, Option.getD_some, gK, gR, gN, gIs, inb_nI, and_self, nI_clamp, fa_lit, pk_mul, nI_add, n10, n1z, n00, eq_self, not_true_eq_false, not_false_eq_true, hRN.1, hR2.1, hRP.1, hq, fa_litL, wi1_y (n := 99999), eP]
    · rw [u1.2.2.1 B (by omega), u1.2.2.2 28 (by omega) (by omega), p1.1, sI_r, m1.2.2 B (by omega), m1.2.2 (B + 59) (by omega), n1.1]
      exact hb
end TOLD
