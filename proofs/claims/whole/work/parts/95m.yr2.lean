section YR2
variable {B t c l y : Nat} {T S X Z : Nat → Nat} {M N Q : Mm}
def cA (j : Nat) : Prop := (j < 960 ∨ 1200 ≤ j) ∧ j < 1383
theorem sub_lt {a b d : Nat} (ha : a < 2 ^ 30) (hb : b < 2 ^ 30) (hd : d < 2 ^ 30) (h1 : 1 ≤ d) : (nI a - nI b < nI d) ↔ a - b < d := by
  rw [fa_lt, pk_sub_toInt ha hb, nI_toInt (by omega)]
  omega
theorem laS_at (hl4 : l < 4) : ∀ {k j : Nat}, k ≤ 60 → (j < 60 * l ∨ 60 * l + k ≤ j) → j ≠ 1383 + 6 * l + 3 → laS T l y X k j = X j
  | 0, _, _, _, _ => rfl
  | k + 1, j, hk, h1, h2 => by
    have ih := laS_at hl4 (k := k) (j := j) (by omega) (by omega) h2
    show laS1 T l y (laS T l y X k) k j = X j
    unfold laS1
    split
    · rw [upS_ne h2, upS_ne (by omega)]; exact ih
    · exact ih
theorem v_lap_lp (hl : l < T 0) (hX : X 1206 = y) (hy : y ≤ 60) : ∀ (d k n : Nat) (M : Mm), k + d = T (12 + 7 * l) → d < n → RV B M T (laS T l y X k) → ∃ N, f_X8_lapses_2 n (B + 59) (nI l) (nI (k + 1)) M = some ((), N) ∧ RV B N T (laS T l y X (T (12 + 7 * l))) ∧ KQ B M N := by
  intro d
  induction d with
  | zero =>
    intro k n M hk hn hR
    obtain ⟨n, rfl⟩ : ∃ q, n = q + 1 := ⟨n - 1, by omega⟩
    have w := (hR.2.2.2.1.2.2 l hl).2.1
    have w0 := hR.2.2.2.1.1
    have hk : k = T (12 + 7 * l) := by omega
    subst hk
    have lo := v_loanOf hR hl (w := 0) (by omega)
    refine ⟨M, ?_, hR, KQ.rf⟩
    simp (disch := omega) only [f_X8_lapses_2, reduceIte, ↓reduceIte, ↓ck_i, ↓nm_s, ↓bR_i, ↓bd_i, Option.isSome_some, Option.getD_some, gK, gR, gN, gIs, inb_nI, and_self, nI_clamp, fa_lit, pk_mul, nI_add, n10, n1z, n00, eq_self, not_true_eq_false, not_false_eq_true, hR.1, lo, Nat.add_zero, nI_ltI, Nat.lt_succ_self]
  | succ d ih =>
    intro k n M hk hn hR
    obtain ⟨n, rfl⟩ : ∃ q, n = q + 1 := ⟨n - 1, by omega⟩
    have w := (hR.2.2.2.1.2.2 l hl).2.1
    have wl := (hR.2.2.2.1.2.2 l hl).2.2.2.2.2.2.2.2.2
    have wl1 := wl.1
    have wl2 := wl.2.1
    clear wl
    have w0 := hR.2.2.2.1.1
    have hk2 : ¬ T (12 + 7 * l) < k + 1 := by omega
    have lo := v_loanOf hR hl (w := 0) (by omega)
    have lo6 := v_loanOf hR hl (w := 6) (by omega)
    have s6 := hR.2.2.1 (60 * l + k) (by omega)
    have s8 := hR.2.2.1 (480 + 60 * l + k) (by omega)
    have sy := hR.2.2.1 1206 (by omega)
    rw [laS_at (by omega) (by omega) (by omega) (by omega), hX] at sy
    have v4 := (hR.2.2.2.2.2.2.2.2 l hl k (by omega)).1
    have v8 := (hR.2.2.2.2.2.2.2.2 l hl k (by omega)).2.2.1
    have a4 : 480 + (60 * l + k) = 480 + 60 * l + k := by omega
    have hD : RfD B M.2.2 := hR.1
    have skip : laS T l y X (k + 1) = laS T l y X k → f_X8_lapses_2 (n + 1) (B + 59) (nI l) (nI (k + 1)) M = f_X8_lapses_2 n (B + 59) (nI l) (nI (k + 1 + 1)) M → ∃ N, f_X8_lapses_2 (n + 1) (B + 59) (nI l) (nI (k + 1)) M = some ((), N) ∧ RV B N T (laS T l y X (T (12 + 7 * l))) ∧ KQ B M N := fun e1 e2 => by
      obtain ⟨N, eN, n1⟩ := ih (k + 1) n M (by omega) (by omega) (by rw [e1]; exact hR)
      exact ⟨N, by rw [e2]; exact eN, n1⟩
    have eS : laS T l y X (k + 1) = laS1 T l y (laS T l y X k) k := rfl
    by_cases hs : laS T l y X k (60 * l + k) = 1
    · by_cases hlp : y - laS T l y X k (480 + 60 * l + k) < T (12 + 7 * l + 6)
      · refine skip (by rw [eS]; unfold laS1; rw [if_neg (by omega)]) ?_
        have n11 : (nI 1 = nI 1) = True := by decide
        rw [hs] at s6
        simp (disch := omega) only [f_X8_lapses_2, reduceIte, ↓reduceIte, ↓ck_i, ↓nm_s, ↓bR_i, ↓bd_i, Option.isSome_some, Option.getD_some, gK, gR, gN, gIs, inb_nI, and_self, nI_clamp, fa_lit, pk_mul, nI_add, n10, n1z, n00, eq_self, not_true_eq_false, not_false_eq_true, hD.a, lo, Nat.add_zero, nI_ltI, hk2, p_bondAt, Nat.zero_add, a4, s6, n11, sy, s8, lo6, sub_lt, hlp]
      · have hV := hR.s (j := 60 * l + k) (v := 4) (hR.2.2.2.2.up hR.2.2.2.1 (by omega))
        have od := v_owedFor hV hl (k := k) (by omega)
        have dd : dsS T (upS (laS T l y X k) (60 * l + k) 4) l k = dsS T (laS T l y X k) l k := by
          unfold dsS
          rw [upS_ne (by omega)]
        rw [dd] at od
        have sp := hV.2.2.1 (1383 + 6 * l + 3) (by omega)
        rw [upS_ne (by omega)] at sp
        have hV2 := hV.s (j := 1383 + 6 * l + 3) (v := laS T l y X k (1383 + 6 * l + 3) + dsS T (laS T l y X k) l k) (hV.2.2.2.2.up hR.2.2.2.1 (by omega))
        have e1 : laS T l y X (k + 1) = upS (upS (laS T l y X k) (60 * l + k) 4) (1383 + 6 * l + 3) (laS T l y X k (1383 + 6 * l + 3) + dsS T (laS T l y X k) l k) := by
          rw [eS]; unfold laS1; rw [if_pos ⟨hs, by omega⟩]
        rw [← e1] at hV2
        obtain ⟨N, eN, n1, n2⟩ := ih (k + 1) n _ (by omega) (by omega) hV2
        refine ⟨N, ?_, n1, (KQ.s.tr KQ.s).tr n2⟩
        rw [← eN]
        have n11 : (nI 1 = nI 1) = True := by decide
        rw [hs] at s6
        simp (disch := omega) only [f_X8_lapses_2, reduceIte, ↓reduceIte, ↓ck_i, ↓nm_s, ↓bR_i, ↓bd_i, Option.isSome_some, Option.getD_some, gK, gR, gN, gIs, inb_nI, and_self, nI_clamp, fa_lit, pk_mul, nI_add, n10, n1z, n00, eq_self, not_true_eq_false, not_false_eq_true, hD.a, lo, Nat.add_zero, nI_ltI, hk2, p_bondAt, Nat.zero_add, a4, s6, n11, sy, s8, lo6, sub_lt, hlp, hV.1, sp, od]
    · refine skip (by rw [eS]; unfold laS1; rw [if_neg (fun q => hs q.1)]) ?_
      simp (disch := omega) only [f_X8_lapses_2, reduceIte, ↓reduceIte, ↓ck_i, ↓nm_s, ↓bR_i, ↓bd_i, Option.isSome_some, Option.getD_some, gK, gR, gN, gIs, inb_nI, and_self, nI_clamp, fa_lit, pk_mul, nI_add, n10, n1z, n00, eq_self, not_true_eq_false, not_false_eq_true, hD.a, lo, Nat.add_zero, nI_ltI, hk2, p_bondAt, Nat.zero_add, s6, nI_eq, hs]
theorem w_lap_lp (hT : t + 14 ≤ B + 15 ∨ B + 25 ≤ t) (hl : l < T 0) (hX : X 1206 = y) (hy : y ≤ 60) : ∀ (d k n : Nat) (M : Mm) (Z : Nat → Nat), k + d = T (12 + 7 * l) → d < n → CV B t M T Z → ag cA Z (laS T l y X k) → ∃ N Z2, f_X7_lapseOld_2 n B (nI l) (nI (k + 1)) M = some ((), N) ∧ CV B t N T Z2 ∧ ag cA Z2 (laS T l y X (T (12 + 7 * l))) ∧ KS B M N := by
  intro d
  induction d with
  | zero =>
    intro k n M Z hk hn hQ hZ
    obtain ⟨n, rfl⟩ : ∃ q, n = q + 1 := ⟨n - 1, by omega⟩
    have w := (hQ.2.2.2.2.1.2.2 l hl).2.1
    have w0 := hQ.2.2.2.2.1.1
    have hk : k = T (12 + 7 * l) := by omega
    subst hk
    have c2 := (hQ.2.2.2.2.2.1.2.2.1 l hl).1
    refine ⟨M, Z, ?_, hQ, hZ, KS.rf⟩
    simp (disch := omega) only [f_X7_lapseOld_2, reduceIte, ↓reduceIte, ↓ck_i, ↓nm_s, ↓bR_i, ↓bd_i, Option.isSome_some, Option.getD_some, gK, gR, gN, gIs, inb_nI, and_self, nI_clamp, fa_lit, pk_mul, nI_add, n10, n1z, n00, eq_self, not_true_eq_false, not_false_eq_true, hQ.1, hQ.2.1, hQ.2.2.1, c2, nI_ltI, Nat.lt_succ_self]
  | succ d ih =>
    intro k n M Z hk hn hQ hZ
    obtain ⟨n, rfl⟩ : ∃ q, n = q + 1 := ⟨n - 1, by omega⟩
    have w := (hQ.2.2.2.2.1.2.2 l hl).2.1
    have wl := (hQ.2.2.2.2.1.2.2 l hl).2.2.2.2.2.2.2.2.2
    have wl1 := wl.1
    have wl2 := wl.2.1
    clear wl
    have w0 := hQ.2.2.2.2.1.1
    have hk2 : ¬ T (12 + 7 * l) < k + 1 := by omega
    have c2 := hQ.2.2.2.2.2.1.2.2.1 l hl
    have cb := c2.1
    have cl := c2.2.2.2.2.2.2
    clear c2
    have s6 := (hQ.2.2.2.2.2.2.1.2.2.2.2 l hl k (by omega)).1
    have s8 := (hQ.2.2.2.2.2.2.1.2.2.2.2 l hl k (by omega)).2.2.1
    have sy := hQ.2.2.2.2.2.2.1.1
    have v4 := (hQ.2.2.2.2.2.2.2.2.2.2.2 l hl k (by omega)).1
    have v8 := (hQ.2.2.2.2.2.2.2.2.2.2.2 l hl k (by omega)).2.2.1
    have z6 := hZ (60 * l + k) ⟨by omega, by omega⟩
    have z8 := hZ (480 + 60 * l + k) ⟨by omega, by omega⟩
    have zy := hZ 1206 ⟨by omega, by omega⟩
    rw [laS_at (by omega) (by omega) (by omega) (by omega), hX] at zy
    rw [zy] at sy
    have hC : CmD B M.2.2 := hQ.1
    have eS : laS T l y X (k + 1) = laS1 T l y (laS T l y X k) k := rfl
    have skip : laS T l y X (k + 1) = laS T l y X k → f_X7_lapseOld_2 (n + 1) B (nI l) (nI (k + 1)) M = f_X7_lapseOld_2 n B (nI l) (nI (k + 1 + 1)) M → ∃ N Z2, f_X7_lapseOld_2 (n + 1) B (nI l) (nI (k + 1)) M = some ((), N) ∧ CV B t N T Z2 ∧ ag cA Z2 (laS T l y X (T (12 + 7 * l))) ∧ KS B M N := fun e1 e2 => by
      obtain ⟨N, Z2, eN, n1⟩ := ih (k + 1) n M Z (by omega) (by omega) hQ (by rw [e1]; exact hZ)
      exact ⟨N, Z2, by rw [e2]; exact eN, n1⟩
    by_cases hs : laS T l y X k (60 * l + k) = 1
    · by_cases hlp : y - laS T l y X k (480 + 60 * l + k) < T (12 + 7 * l + 6)
      · refine skip (by rw [eS]; unfold laS1; rw [if_neg (by omega)]) ?_
        have n11 : (nI 1 = nI 1) = True := by decide
        rw [z6, hs] at s6
        rw [← z8] at hlp
        simp (disch := omega) only [f_X7_lapseOld_2, reduceIte, ↓reduceIte, ↓ck_i, ↓nm_s, ↓bR_i, ↓bd_i, Option.isSome_some, Option.getD_some, gK, gR, gN, gIs, inb_nI, and_self, nI_clamp, fa_lit, pk_mul, nI_add, n10, n1z, n00, eq_self, not_true_eq_false, not_false_eq_true, hC.a, hQ.2.1, hQ.2.2.1, hQ.2.2.2.1, cb, cl, nI_ltI, hk2, p_spotOf, s6, n11, sy, s8, sub_lt, hlp]
      · have hV := CV.cond (v := 4) hl (k := k) (by omega) hQ hT (hQ.2.2.2.2.2.2.2.up hQ.2.2.2.2.1 (by omega))
        have e1 : laS T l y X (k + 1) = upS (upS (laS T l y X k) (60 * l + k) 4) (1383 + 6 * l + 3) (laS T l y X k (1383 + 6 * l + 3) + dsS T (laS T l y X k) l k) := by
          rw [eS]; unfold laS1; rw [if_pos ⟨hs, by omega⟩]
        have hZ2 : ag cA (upS Z (60 * l + k) 4) (laS T l y X (k + 1)) := by
          rw [e1]
          exact ag.rf hZ.up (fun q => by have := q.2; omega)
        obtain ⟨N, Z2, eN, n1, n2, n3⟩ := ih (k + 1) n _ _ (by omega) (by omega) hV hZ2
        refine ⟨N, Z2, ?_, n1, n2, (KS.s (by omega)).tr n3⟩
        rw [← eN]
        have n11 : (nI 1 = nI 1) = True := by decide
        rw [z6, hs] at s6
        rw [← z8] at hlp
        simp (disch := omega) only [f_X7_lapseOld_2, reduceIte, ↓reduceIte, ↓ck_i, ↓nm_s, ↓bR_i, ↓bd_i, Option.isSome_some, Option.getD_some, gK, gR, gN, gIs, inb_nI, and_self, nI_clamp, fa_lit, pk_mul, nI_add, n10, n1z, n00, eq_self, not_true_eq_false, not_false_eq_true, hC.a, hQ.2.1, hQ.2.2.1, hQ.2.2.2.1, cb, cl, nI_ltI, hk2, p_spotOf, s6, n11, sy, s8, sub_lt, hlp]
    · refine skip (by rw [eS]; unfold laS1; rw [if_neg (fun q => hs q.1)]) ?_
      rw [← z6] at hs
      simp (disch := omega) only [f_X7_lapseOld_2, reduceIte, ↓reduceIte, ↓ck_i, ↓nm_s, ↓bR_i, ↓bd_i, Option.isSome_some, Option.getD_some, gK, gR, gN, gIs, inb_nI, and_self, nI_clamp, fa_lit, pk_mul, nI_add, n10, n1z, n00, eq_self, not_true_eq_false, not_false_eq_true, hC.a, hQ.2.1, hQ.2.2.1, hQ.2.2.2.1, cb, nI_ltI, hk2, p_spotOf, s6, nI_eq, hs]
/-- the place of a number that stands, the reference's -/
theorem v_at_lp (hR : RV B M T X) (hl : l < T 0) {K i : Nat} (hK : K < T (12 + 7 * l)) (pK : stnd X l K = true) (cK : fb_ct (stnd X l) K = i) : ∀ (d k n : Nat), k + d = K → d < n → f_X8_atPlace_5 n (B + 59) (nI l) (nI (i - fb_ct (stnd X l) k)) (nI k) M = some (nI (K + 1), M) := by
  have w := (hR.2.2.2.1.2.2 l hl).2.1
  have w0 := hR.2.2.2.1.1
  have hD : RfD B M.2.2 := hR.1
  have hle := fb_ct_le (stnd X l) K
  intro d
  induction d with
  | zero =>
    intro k n hk hn
    obtain ⟨n, rfl⟩ : ∃ q, n = q + 1 := ⟨n - 1, by omega⟩
    have hk : k = K := by omega
    subst hk
    have s6 := hR.2.2.1 (60 * l + k) (by omega)
    have p0 : X (60 * l + k) = 0 := of_decide_eq_true pK
    rw [p0] at s6
    rw [cK, Nat.sub_self]
    have n01 : ¬ nI 0 ≤ nI 0 - nI 1 := by decide
    simp (disch := omega) only [f_X8_atPlace_5, reduceIte, ↓reduceIte, ↓ck_i, ↓nm_s, ↓bR_i, ↓bd_i, Option.isSome_some, Option.getD_some, gK, gR, gN, gIs, inb_nI, and_self, nI_clamp, fa_lit, pk_mul, nI_add, n10, n1z, n00, eq_self, not_true_eq_false, not_false_eq_true, hD.a, p_bondAt, Nat.zero_add, s6, n01]
  | succ d ih =>
    intro k n hk hn
    obtain ⟨n, rfl⟩ : ∃ q, n = q + 1 := ⟨n - 1, by omega⟩
    have ih := ih (k + 1) n (by omega) (by omega)
    have s6 := hR.2.2.1 (60 * l + k) (by omega)
    have v4 := (hR.2.2.2.2.2.2.2.2 l hl k (by omega)).1
    have mo := fb_ct_mono (stnd X l) (m := k + 1) (n := K) (by omega)
    rw [fb_ct_succ] at mo ih
    rw [← ih]
    by_cases hp : X (60 * l + k) = 0
    · have hp2 : stnd X l k = true := decide_eq_true hp
      rw [if_pos hp2] at mo ⊢
      rw [hp] at s6
      have e1 : i - fb_ct (stnd X l) k - 1 = i - (fb_ct (stnd X l) k + 1) := by omega
      simp (disch := omega) only [f_X8_atPlace_5, reduceIte, ↓reduceIte, ↓ck_i, ↓nm_s, ↓bR_i, ↓bd_i, Option.isSome_some, Option.getD_some, gK, gR, gN, gIs, inb_nI, and_self, nI_clamp, fa_lit, pk_mul, nI_add, n10, n1z, n00, eq_self, not_true_eq_false, not_false_eq_true, hD.a, p_bondAt, Nat.zero_add, s6, pk_sub, nI_leI, Nat.zero_le, e1]
    · have hp2 : ¬ stnd X l k = true := by unfold stnd; rw [decide_eq_false hp]; decide
      rw [if_neg hp2] at mo ⊢
      simp (disch := omega) only [f_X8_atPlace_5, reduceIte, ↓reduceIte, ↓ck_i, ↓nm_s, ↓bR_i, ↓bd_i, Option.isSome_some, Option.getD_some, gK, gR, gN, gIs, inb_nI, and_self, nI_clamp, fa_lit, pk_mul, nI_add, n10, n1z, n00, eq_self, not_true_eq_false, not_false_eq_true, hD.a, p_bondAt, Nat.zero_add, s6, nI_eq, hp, pk_sub, nI_leI, Nat.zero_le, Nat.sub_zero, Nat.add_zero]
theorem v_retires (hR : RV B M T X) (hl : l < T 0) {k r bt cst : Nat} (hk : k < T (12 + 7 * l)) (hX : X 1206 = y) (hy : y ≤ 60) (hr : r ≤ 60) (hbt : bt ≤ 1) (h21 : M.1 (B + 59) 21 = nI bt) (h20 : M.1 (B + 59) 20 = nI cst) (hc : cst ≤ T (12 + 7 * l + 1)) : ∃ N, f_X8_retires (B + 59) (nI l) (nI (k + 1)) (nI r) M = some ((), N) ∧ RV B N T (reS T l y bt cst X k r) ∧ KQ B M N := by
  have w := (hR.2.2.2.1.2.2 l hl).2.1
  have wp := (hR.2.2.2.1.2.2 l hl).2.2.2.1
  have w0 := hR.2.2.2.1.1
  have w1 := hR.2.2.2.1.2.1
  have hD : RfD B M.2.2 := hR.1
  have sy := hR.2.2.1 1206 (by omega)
  rw [hX] at sy
  have a2 : 240 + (60 * l + k) = 240 + 60 * l + k := by omega
  have a4 : 480 + (60 * l + k) = 480 + 60 * l + k := by omega
  have a7 : 720 + (60 * l + k) = 720 + 60 * l + k := by omega
  have a9 : 960 + (60 * l + k) = 960 + 60 * l + k := by omega
  have v5 := (hR.2.2.2.2.2.2.2.2 l hl k hk).2.1
  have hV1 := hR.s (j := 480 + 60 * l + k) (v := y) (hR.2.2.2.2.up hR.2.2.2.1 (by omega))
  have hV2 := hV1.s (j := 720 + 60 * l + k) (v := r) (hV1.2.2.2.2.up hR.2.2.2.1 (by omega))
  have m21 : (sI (sI M (B + 63) (480 + 60 * l + k) (nI y)) (B + 63) (720 + 60 * l + k) (nI r)).1 (B + 59) 21 = nI bt := by rw [sI_ne (by omega), sI_ne (by omega)]; exact h21
  by_cases hb : bt = 0
  · subst hb
    have hV3 := hV2.s (j := 60 * l + k) (v := 1) (hV2.2.2.2.2.up hR.2.2.2.1 (by omega))
    refine ⟨_, ?_, by unfold reS; rw [if_pos rfl]; exact hV3, (KQ.s.tr KQ.s).tr KQ.s⟩
    simp (disch := omega) only [f_X8_retires, reduceIte, ↓reduceIte, ↓ck_i, ↓nm_s, ↓bR_i, ↓bd_i, Option.isSome_some, Option.getD_some, gK, gR, gN, gIs, inb_nI, and_self, nI_clamp, fa_lit, pk_mul, nI_add, n10, n1z, n00, eq_self, not_true_eq_false, not_false_eq_true, p_bondAt, hD.a, sI_sh, sy, a4, a7, m21, Nat.zero_add]
  · have hb1 : bt = 1 := by omega
    subst hb1
    have hV3 := hV2.s (j := 60 * l + k) (v := 3) (hV2.2.2.2.2.up hR.2.2.2.1 (by omega))
    have s9 := hV3.2.2.1 (960 + 60 * l + k) (by omega)
    rw [upS_ne (by omega), upS_ne (by omega), upS_ne (by omega)] at s9
    have hV4 := hV3.s (j := 960 + 60 * l + k) (v := X (960 + 60 * l + k) + cst) (hV3.2.2.2.2.up hR.2.2.2.1 (by omega))
    have s7 := hV4.2.2.1 (240 + 60 * l + k) (by omega)
    rw [upS_ne (by omega), upS_ne (by omega), upS_ne (by omega), upS_ne (by omega)] at s7
    obtain ⟨N5, e5, hV5, k5⟩ := v_pay (g := X (240 + 60 * l + k)) (p := cst) hV4 v5 (by omega)
    have s2 := hV5.2.2.1 (1383 + 6 * l + 2) (by omega)
    rw [pyS_at (by omega), upS_ne (by omega), upS_ne (by omega), upS_ne (by omega), upS_ne (by omega)] at s2
    have hV6 := hV5.s (j := 1383 + 6 * l + 2) (v := X (1383 + 6 * l + 2) + cst) (hV5.2.2.2.2.up hR.2.2.2.1 (by omega))
    have s5 := hV6.2.2.1 (1383 + 6 * l + 5) (by omega)
    rw [upS_ne (by omega), pyS_at (by omega), upS_ne (by omega), upS_ne (by omega), upS_ne (by omega), upS_ne (by omega)] at s5
    have lo1 := v_loanOf hV6 hl (w := 1) (by omega)
    have hV7 := hV6.s (j := 1383 + 6 * l + 5) (v := X (1383 + 6 * l + 5) + (T (12 + 7 * l + 1) - cst)) (hV6.2.2.2.2.up hR.2.2.2.1 (by omega))
    have c3 : (sI (sI (sI M (B + 63) (480 + 60 * l + k) (nI y)) (B + 63) (720 + 60 * l + k) (nI r)) (B + 63) (60 * l + k) (nI 3)).1 (B + 59) 20 = nI cst := by rw [sI_ne (by omega), sI_ne (by omega), sI_ne (by omega)]; exact h20
    have c4 : (sI (sI (sI (sI M (B + 63) (480 + 60 * l + k) (nI y)) (B + 63) (720 + 60 * l + k) (nI r)) (B + 63) (60 * l + k) (nI 3)) (B + 63) (960 + 60 * l + k) (nI (X (960 + 60 * l + k) + cst))).1 (B + 59) 20 = nI cst := by rw [sI_ne (by omega)]; exact c3
    have c5 : N5.1 (B + 59) 20 = nI cst := by rw [k5.2 _ (by omega)]; exact c4
    have c6 : (sI N5 (B + 63) (1383 + 6 * l + 2) (nI (X (1383 + 6 * l + 2) + cst))).1 (B + 59) 20 = nI cst := by rw [sI_ne (by omega)]; exact c5
    refine ⟨_, ?_, by unfold reS; rw [if_neg hb]; exact hV7, ((((((KQ.s.tr KQ.s).tr KQ.s).tr KQ.s).tr k5).tr KQ.s).tr KQ.s)⟩
    simp (disch := omega) only [f_X8_retires, reduceIte, ↓reduceIte, ↓ck_i, ↓nm_s, ↓bR_i, ↓bd_i, Option.isSome_some, Option.getD_some, gK, gR, gN, gIs, inb_nI, and_self, nI_clamp, fa_lit, pk_mul, nI_add, n10, n1z, n00, eq_self, not_true_eq_false, not_false_eq_true, p_bondAt, hD.a, sI_sh, sy, a4, a7, a9, a2, m21, Nat.zero_add, s9, c3, s7, c4, e5, hV5.1, s2, c5, s5, lo1, c6, pk_sub]
end YR2
