/-- loan by loan -/
def yrL (T : Nat → Nat) (y : Nat) (X : Nat → Nat) : Nat → Nat → Nat
  | 0 => X
  | l + 1 => if y ≤ T (12 + 7 * l + 3) then lyS T l y (yrL T y X l) else yrL T y X l
def yrC (T : Nat → Nat) (y : Nat) (X : Nat → Nat) : Nat → Nat
  | 0 => 0
  | l + 1 => yrC T y X l + (if y ≤ T (12 + 7 * l + 3) then lyD T l y (yrL T y X l) else 0)
def yrP (T : Nat → Nat) (y : Nat) (X : Nat → Nat) : Nat → Nat → Nat
  | 0 => X
  | l + 1 => laS T l y (yrP T y X l) (T (12 + 7 * l))
/-- what a loan's year asks of what is so ahead of it -/
def yrH (T : Nat → Nat) (y : Nat) (X : Nat → Nat) (l : Nat) : Prop := SB T X ∧ X 1206 = y ∧ X (1211 + l) ≤ 80000000 ∧ (y ≤ T (12 + 7 * l + 3) → RI T l y (ctS T X l 0) (X (1211 + l)) ∧ ∀ k, k < T (12 + 7 * l) → (X (60 * l + k) = 0 ↔ X (480 + 60 * l + k) = 0) ∧ X (480 + 60 * l + k) < y)
def YrOk : Prop := ∀ (T S : Nat → Nat) (c : Nat), TW T → SW T S c → c + 1 ≤ 600 → S 1206 < 60 → (∀ l, l < T 0 → yrH T (S 1206 + 1) (yrL T (S 1206 + 1) (upS S 1206 (S 1206 + 1)) l) l) ∧ (∀ l, l ≤ T 0 → yrP T (S 1206 + 1) (yrL T (S 1206 + 1) (upS S 1206 (S 1206 + 1)) (T 0)) l 1206 = S 1206 + 1) ∧ SW T (yrP T (S 1206 + 1) (yrL T (S 1206 + 1) (upS S 1206 (S 1206 + 1)) (T 0)) (T 0)) (c + 1)
section YR5
variable {B t c l y : Nat} {T S X Z : Nat → Nat} {M N Q : Mm}
theorem v_yl_lp (h1 : 1 ≤ y) (hy6 : y ≤ 60) (hH : ∀ l, l < T 0 → yrH T y (yrL T y X l) l) {R : Option (Int32 × Mm) → Prop} (hfin : ∀ (m : Nat) (N : Mm), RV B N T (yrL T y X (T 0)) → KY B M N → R (f_X8_year_40 (m + 1) (B + 59) (nI (yrC T y X (T 0))) (nI (T 0)) N)) : ∀ (d l m : Nat) (N : Mm), l + d = T 0 → d < m → RV B N T (yrL T y X l) → KY B M N → R (f_X8_year_40 m (B + 59) (nI (yrC T y X l)) (nI l) N) := by
  intro d
  induction d with
  | zero =>
    intro l m N hl hm hR hk
    obtain ⟨m, rfl⟩ : ∃ q, m = q + 1 := ⟨m - 1, by omega⟩
    have hl : l = T 0 := by omega
    subst hl
    exact hfin m N hR hk
  | succ d ih =>
    intro l m N hl hm hR hk
    obtain ⟨m, rfl⟩ : ∃ q, m = q + 1 := ⟨m - 1, by omega⟩
    have w0 := hR.2.2.2.1.1
    have w20 := (hR.2.2.2.1.2.2 l (by omega)).2.2.2.2.2.2.1
    obtain ⟨a1, a2, a3, a4⟩ := hH l (by omega)
    have e : ¬ T 0 ≤ l := by omega
    have t0 := hR.2.1 0 (by omega)
    have sy := hR.2.2.1 1206 (by omega)
    rw [a2] at sy
    have l3 := v_loanOf hR (l := l) (by omega) (w := 3) (by omega)
    have hD : RfD B N.2.2 := hR.1
    have eL : yrL T y X (l + 1) = if y ≤ T (12 + 7 * l + 3) then lyS T l y (yrL T y X l) else yrL T y X l := rfl
    have eC : yrC T y X (l + 1) = yrC T y X l + (if y ≤ T (12 + 7 * l + 3) then lyD T l y (yrL T y X l) else 0) := rfl
    by_cases hy : y ≤ T (12 + 7 * l + 3)
    · rw [if_pos hy] at eL eC
      obtain ⟨i1, i2⟩ := a4 hy
      obtain ⟨N2, e2, r2, k2⟩ := v_loanYear hR a3 (by omega) a2 h1 hy i1
      have h9 := ih (l + 1) m N2 (by omega) (by omega) (by rw [eL]; exact r2) (hk.tr k2)
      rw [eC] at h9
      have hny : ¬ T (12 + 7 * l + 3) < y := by omega
      have st : f_X8_year_40 (m + 1) (B + 59) (nI (yrC T y X l)) (nI l) N = f_X8_year_40 m (B + 59) (nI (yrC T y X l + lyD T l y (yrL T y X l))) (nI (l + 1)) N2 := by
        simp (disch := omega) only [f_X8_year_40, reduceIte, ↓reduceIte, ↓ck_i, ↓nm_s, ↓bR_i, ↓bd_i, Option.isSome_some, Option.getD_some, gK, gR, gN, gIs, inb_nI, and_self, nI_clamp, fa_lit, pk_mul, nI_add, n10, n1z, n00, eq_self, not_true_eq_false, not_false_eq_true, hD.a, t0, nI_leI, e, sy, l3, nI_ltI, hny, e2]
      rw [st]; exact h9
    · rw [if_neg hy] at eL eC
      have h9 := ih (l + 1) m N (by omega) (by omega) (by rw [eL]; exact hR) hk
      rw [eC] at h9
      have hny : T (12 + 7 * l + 3) < y := by omega
      have st : f_X8_year_40 (m + 1) (B + 59) (nI (yrC T y X l)) (nI l) N = f_X8_year_40 m (B + 59) (nI (yrC T y X l + 0)) (nI (l + 1)) N := by
        simp (disch := omega) only [f_X8_year_40, reduceIte, ↓reduceIte, ↓ck_i, ↓nm_s, ↓bR_i, ↓bd_i, Option.isSome_some, Option.getD_some, gK, gR, gN, gIs, inb_nI, and_self, nI_clamp, fa_lit, pk_mul, nI_add, n10, n1z, n00, eq_self, not_true_eq_false, not_false_eq_true, hD.a, t0, nI_leI, e, sy, l3, nI_ltI, hny]
      rw [st]; exact h9
theorem v_yp_lp (hy6 : y ≤ 60) (hP : ∀ l, l ≤ T 0 → yrP T y X l 1206 = y) {v : Int32} : ∀ (d l m : Nat) (N : Mm), l + d = T 0 → d < m → RV B N T (yrP T y X l) → ∃ Q, f_X8_year_87 m (B + 59) v (nI l) N = some (v, Q) ∧ RV B Q T (yrP T y X (T 0)) ∧ KY B N Q := by
  intro d
  induction d with
  | zero =>
    intro l m N hl hm hR
    obtain ⟨m, rfl⟩ : ∃ q, m = q + 1 := ⟨m - 1, by omega⟩
    have w0 := hR.2.2.2.1.1
    have hl : l = T 0 := by omega
    subst hl
    have t0 := hR.2.1 0 (by omega)
    refine ⟨N, ?_, hR, ⟨rfl, fun _ _ _ _ => rfl, fun _ _ => rfl⟩⟩
    simp (disch := omega) only [f_X8_year_87, reduceIte, ↓reduceIte, ↓ck_i, ↓nm_s, ↓bR_i, ↓bd_i, Option.isSome_some, Option.getD_some, gK, gR, gN, gIs, inb_nI, and_self, nI_clamp, fa_lit, pk_mul, nI_add, n10, n1z, n00, eq_self, not_true_eq_false, not_false_eq_true, hR.1, t0, nI_leI, Nat.le_refl]
  | succ d ih =>
    intro l m N hl hm hR
    obtain ⟨m, rfl⟩ : ∃ q, m = q + 1 := ⟨m - 1, by omega⟩
    have w0 := hR.2.2.2.1.1
    have w := (hR.2.2.2.1.2.2 l (by omega)).2.1
    have e : ¬ T 0 ≤ l := by omega
    have t0 := hR.2.1 0 (by omega)
    have hD : RfD B N.2.2 := hR.1
    obtain ⟨N2, e2, r2, k2⟩ := v_lap_lp (B := B) (X := yrP T y X l) (l := l) (by omega) (hP l (by omega)) hy6 (T (12 + 7 * l)) 0 FU N (by omega) (by unfold FU; omega) hR
    rw [show (0 : Nat) + 1 = 1 by omega] at e2
    have e3 : f_X8_lapses (B + 59) (nI l) N = some ((), N2) := by
      rw [f_X8_lapses, show (1 : Int32) = nI 1 from rfl]
      exact e2
    obtain ⟨Q, eQ, q1, q2⟩ := ih (l + 1) m N2 (by omega) (by omega) r2
    refine ⟨Q, ?_, q1, k2.ky.tr q2⟩
    rw [← eQ]
    simp (disch := omega) only [f_X8_year_87, reduceIte, ↓reduceIte, ↓ck_i, ↓nm_s, ↓bR_i, ↓bd_i, Option.isSome_some, Option.getD_some, gK, gR, gN, gIs, inb_nI, and_self, nI_clamp, fa_lit, pk_mul, nI_add, n10, n1z, n00, eq_self, not_true_eq_false, not_false_eq_true, hD.a, t0, nI_leI, e, e3]
def KB (B : Nat) (M N : Mm) : Prop := N.2 = M.2 ∧ ∀ a, (a < B + 15 ∨ B + 25 ≤ a) → (a < B + 44 ∨ B + 59 ≤ a) → N.1 a = M.1 a
theorem KB.tr (h : KB B M N) (g : KB B N Q) : KB B M Q := ⟨g.1.trans h.1, fun a a1 a2 => (g.2 a a1 a2).trans (h.2 a a1 a2)⟩
theorem KS.kb (h : KS B M N) : KB B M N := ⟨h.1, fun a a1 _ => h.2 a a1⟩
theorem w_yp_lp (hT : t + 14 ≤ B + 15 ∨ B + 25 ≤ t) (hy6 : y ≤ 60) (hP : ∀ l, l ≤ T 0 → yrP T y X l 1206 = y) {v : Int32} : ∀ (d l m : Nat) (N : Mm) (Z : Nat → Nat), l + d = T 0 → d < m → CV B t N T Z → ag cA Z (yrP T y X l) → ∃ Q Z2, f_X7_year_81 m B v (nI l) N = some (v, Q) ∧ CV B t Q T Z2 ∧ ag cA Z2 (yrP T y X (T 0)) ∧ KB B N Q := by
  intro d
  induction d with
  | zero =>
    intro l m N Z hl hm hQ hZ
    obtain ⟨m, rfl⟩ : ∃ q, m = q + 1 := ⟨m - 1, by omega⟩
    have w0 := hQ.2.2.2.2.1.1
    have hl : l = T 0 := by omega
    subst hl
    have c1 := hQ.2.2.2.2.2.1.1
    refine ⟨N, Z, ?_, hQ, hZ, ⟨rfl, fun _ _ _ => rfl⟩⟩
    simp (disch := omega) only [f_X7_year_81, reduceIte, ↓reduceIte, ↓ck_i, ↓nm_s, ↓bR_i, ↓bd_i, Option.isSome_some, Option.getD_some, gK, gR, gN, gIs, inb_nI, and_self, nI_clamp, fa_lit, pk_mul, nI_add, n10, n1z, n00, eq_self, not_true_eq_false, not_false_eq_true, hQ.1, hQ.2.1, hQ.2.2.1, c1, nI_leI, Nat.le_refl]
  | succ d ih =>
    intro l m N Z hl hm hQ hZ
    obtain ⟨m, rfl⟩ : ∃ q, m = q + 1 := ⟨m - 1, by omega⟩
    have w0 := hQ.2.2.2.2.1.1
    have w := (hQ.2.2.2.2.1.2.2 l (by omega)).2.1
    have c1 := hQ.2.2.2.2.2.1.1
    have e : ¬ T 0 ≤ l := by omega
    obtain ⟨N2, Z2, e2, r2, z2, k2⟩ := w_lap_lp (B := B) (X := yrP T y X l) (l := l) hT (by omega) (hP l (by omega)) hy6 (T (12 + 7 * l)) 0 FU N Z (by omega) (by unfold FU; omega) hQ hZ
    rw [show (0 : Nat) + 1 = 1 by omega] at e2
    have e3 : f_X7_lapseOld B (nI l) N = some ((), N2) := by
      rw [f_X7_lapseOld, show (1 : Int32) = nI 1 from rfl]
      exact e2
    obtain ⟨Q, Z3, eQ, q1, q2, q3⟩ := ih (l + 1) m N2 Z2 (by omega) (by omega) r2 z2
    refine ⟨Q, Z3, ?_, q1, q2, k2.kb.tr q3⟩
    rw [← eQ]
    simp (disch := omega) only [f_X7_year_81, reduceIte, ↓reduceIte, ↓ck_i, ↓nm_s, ↓bR_i, ↓bd_i, Option.isSome_some, Option.getD_some, gK, gR, gN, gIs, inb_nI, and_self, nI_clamp, fa_lit, pk_mul, nI_add, n10, n1z, n00, eq_self, not_true_eq_false, not_false_eq_true, hQ.1, hQ.2.1, hQ.2.2.1, c1, nI_leI, e, e3]
theorem w_yl_lp (hT : t + 14 ≤ B + 15 ∨ B + 25 ≤ t) (ht : t + 14 ≤ B + 44) (hB : t ≠ B) (h1 : 1 ≤ y) (hy6 : y ≤ 60) (hH : ∀ l, l < T 0 → yrH T y (yrL T y X l) l) {R : Option (Int32 × Mm) → Prop} (hfin : ∀ (m : Nat) (N : Mm) (Z : Nat → Nat), CV B t N T Z → ag cP Z (yrL T y X (T 0)) → Z 1206 + 1 = y → KB B M N → R (f_X7_year_32 (m + 1) B (nI y) (nI (yrC T y X (T 0))) (nI (T 0)) N)) : ∀ (d l m : Nat) (N : Mm) (Z : Nat → Nat), l + d = T 0 → d < m → CV B t N T Z → ag cP Z (yrL T y X l) → Z 1206 + 1 = y → KB B M N → R (f_X7_year_32 m B (nI y) (nI (yrC T y X l)) (nI l) N) := by
  intro d
  induction d with
  | zero =>
    intro l m N Z hl hm hQ hZ hz hk
    obtain ⟨m, rfl⟩ : ∃ q, m = q + 1 := ⟨m - 1, by omega⟩
    have hl : l = T 0 := by omega
    subst hl
    exact hfin m N Z hQ hZ hz hk
  | succ d ih =>
    intro l m N Z hl hm hQ hZ hz hk
    obtain ⟨m, rfl⟩ : ∃ q, m = q + 1 := ⟨m - 1, by omega⟩
    have w0 := hQ.2.2.2.2.1.1
    have w20 := (hQ.2.2.2.2.1.2.2 l (by omega)).2.2.2.2.2.2.1
    obtain ⟨a1, a2, a3, a4⟩ := hH l (by omega)
    have e : ¬ T 0 ≤ l := by omega
    have c1 := hQ.2.2.2.2.2.1.1
    have c5 := (hQ.2.2.2.2.2.1.2.2.1 l (by omega)).2.2.2.1
    have hC : CmD B N.2.2 := hQ.1
    have eL : yrL T y X (l + 1) = if y ≤ T (12 + 7 * l + 3) then lyS T l y (yrL T y X l) else yrL T y X l := rfl
    have eC : yrC T y X (l + 1) = yrC T y X l + (if y ≤ T (12 + 7 * l + 3) then lyD T l y (yrL T y X l) else 0) := rfl
    by_cases hy : y ≤ T (12 + 7 * l + 3)
    · rw [if_pos hy] at eL eC
      obtain ⟨i1, i2⟩ := a4 hy
      obtain ⟨N2, Z2, e2, r2, z2, y2, k2⟩ := w_passYear hQ hT ht hB a3 hZ a1 (by omega) hz hy i1 i2
      have h9 := ih (l + 1) m N2 Z2 (by omega) (by omega) r2 (by rw [eL]; exact z2) (by rw [y2]; exact hz) (hk.tr k2)
      rw [eC] at h9
      have hny : ¬ T (12 + 7 * l + 3) < y := by omega
      have st : f_X7_year_32 (m + 1) B (nI y) (nI (yrC T y X l)) (nI l) N = f_X7_year_32 m B (nI y) (nI (yrC T y X l + lyD T l y (yrL T y X l))) (nI (l + 1)) N2 := by
        simp (disch := omega) only [f_X7_year_32, reduceIte, ↓reduceIte, ↓ck_i, ↓nm_s, ↓bR_i, ↓bd_i, Option.isSome_some, Option.getD_some, gK, gR, gN, gIs, inb_nI, and_self, nI_clamp, fa_lit, pk_mul, nI_add, n10, n1z, n00, eq_self, not_true_eq_false, not_false_eq_true, hC.a, hQ.2.1, hQ.2.2.1, c1, nI_leI, e, c5, nI_ltI, hny, e2]
      rw [st]; exact h9
    · rw [if_neg hy] at eL eC
      have h9 := ih (l + 1) m N Z (by omega) (by omega) hQ (by rw [eL]; exact hZ) hz hk
      rw [eC] at h9
      have hny : T (12 + 7 * l + 3) < y := by omega
      have st : f_X7_year_32 (m + 1) B (nI y) (nI (yrC T y X l)) (nI l) N = f_X7_year_32 m B (nI y) (nI (yrC T y X l + 0)) (nI (l + 1)) N := by
        simp (disch := omega) only [f_X7_year_32, reduceIte, ↓reduceIte, ↓ck_i, ↓nm_s, ↓bR_i, ↓bd_i, Option.isSome_some, Option.getD_some, gK, gR, gN, gIs, inb_nI, and_self, nI_clamp, fa_lit, pk_mul, nI_add, n10, n1z, n00, eq_self, not_true_eq_false, not_false_eq_true, hC.a, hQ.2.1, hQ.2.2.1, c1, nI_leI, e, c5, nI_ltI, hny, Nat.add_zero]
      rw [st]; exact h9
theorem yr_a {m : Nat} {v : Int32} (hQ : CV B t N T Z) : f_X7_year_32 (m + 1) B (nI y) v (nI (T 0)) N = f_X7_year_81 FU B v (nI 0) (sI N (B + 15) 0 (nI y)) := by
  have w0 := hQ.2.2.2.2.1.1
  have k7 : gK N B = 7 := hQ.1.1
  have r0 : gR N B 0 = some t := hQ.2.1
  have k6 : gK N t = 6 := hQ.2.2.1.1
  have r1 : gR N B 1 = some (B + 15) := hQ.1.2.1
  have k5 : gK N (B + 15) = 5 := hQ.2.2.2.1.1
  have i0 : gI N t 0 = nI (T 0) := hQ.2.2.2.2.2.1.1
  rw [f_X7_year_32, ck_t k7, r0, bR_s, ck_t k6, i0, if_pos (by rw [nI_leI (by omega) (by omega)]; exact Nat.le_refl _), ck_t k7, r1, bR_s, ck_t k5, nm_s, show (0 : Int32) = nI 0 from rfl]
theorem yr_b {s : Nat} (hC : CmA B M.2.2) (hS : StA (B + 15) M.2.2) (hC1 : CmA B N.2.2) (hS1 : StA (B + 15) N.2.2) (h0 : M.1 (B + 15) 0 = nI s) (h1 : N.1 (B + 15) 0 = nI s) (hs : s < 60) (eN : f_X7_remember B M = some ((), N)) : f_X7_year B M = f_X7_year_32 FU B (nI (s + 1)) (nI 0) (nI 0) N := by
  have k7 : gK M B = 7 := hC.1
  have r1 : gR M B 1 = some (B + 15) := hC.2.1
  have k5 : gK M (B + 15) = 5 := hS.1
  have k7b : gK N B = 7 := hC1.1
  have r1b : gR N B 1 = some (B + 15) := hC1.2.1
  have k5b : gK N (B + 15) = 5 := hS1.1
  rw [f_X7_year, ck_t k7, r1, bR_s, ck_t k5, show gI M (B + 15) 0 = nI s from h0, if_pos (show nI s < (60 : Int32) by show nI s < nI 60; rw [nI_ltI (by omega) (by omega)]; exact hs), ck_t k7, eN, bd_s, ck_t k7b, r1b, bR_s, ck_t k5b, nm_s, show gI N (B + 15) 0 = nI s from h1, show nI s + 1 = nI (s + 1) from nI_1 s, show (0 : Int32) = nI 0 from rfl]
theorem yr_c {m : Nat} {v : Int32} (hR : RV B N T X) : f_X8_year_40 (m + 1) (B + 59) v (nI (T 0)) N = f_X8_year_87 FU (B + 59) v (nI 0) N := by
  have w0 := hR.2.2.2.1.1
  have k8 : gK N (B + 59) = 8 := hR.1.1
  have r11 : gR N (B + 59) 11 = some (B + 61) := by show N.2.2.1 _ _ = _; simp only [hR.1]
  have ki : gK N (B + 61) = 10 ∧ inb (0 : Int32) (gN N (B + 61)) := ⟨by show N.2.2.2.1 _ = _; simp only [hR.1], by rw [show gN N (B + 61) = 80 by show N.2.2.2.2.1 _ = _; simp only [hR.1]]; exact nI_in (c := 0) (by omega) (by omega)⟩
  have i0 : gI N (B + 61) ((0 : Int32)).toNatClampNeg = nI (T 0) := by
    rw [show ((0 : Int32)).toNatClampNeg = 0 from nI_clamp (n := 0) (by omega)]
    exact hR.2.1 0 (by omega)
  rw [f_X8_year_40, ck_t k8, r11, bR_s, ck_t ki, i0, if_pos (by rw [nI_leI (by omega) (by omega)]; exact Nat.le_refl _), show (0 : Int32) = nI 0 from rfl]
theorem yr_d {s : Nat} (hN : RfA B N.2.2) (hP : RfA B Q.2.2) (h0 : N.1 (B + 63) 1206 = nI s) (h1 : Q.1 (B + 63) 1206 = nI s) (hs : s < 60) (eN : f_X8_keeps (B + 59) (sI N (B + 59) 0 (nI 0)) = some ((), Q)) : f_X8_year (B + 59) N = f_X8_year_40 FU (B + 59) (nI 0) (nI 0) (sI Q (B + 63) 1206 (nI (s + 1))) := by
  have k8 : gK N (B + 59) = 8 := hN.1
  have k8a : gK (sI N (B + 59) 0 (0 : Int32)) (B + 59) = 8 := hN.1
  have r17 : gR (sI N (B + 59) 0 (0 : Int32)) (B + 59) 17 = some (B + 63) := by show N.2.2.1 _ _ = _; simp only [hN]
  have ki : gK (sI N (B + 59) 0 (0 : Int32)) (B + 63) = 10 ∧ inb (1206 : Int32) (gN (sI N (B + 59) 0 (0 : Int32)) (B + 63)) := ⟨by show N.2.2.2.1 _ = _; simp only [hN], by rw [show gN (sI N (B + 59) 0 (0 : Int32)) (B + 63) = 1407 by show N.2.2.2.2.1 _ = _; simp only [hN]]; exact nI_in (c := 1206) (by omega) (by omega)⟩
  have cl : ((1206 : Int32)).toNatClampNeg = 1206 := nI_clamp (n := 1206) (by omega)
  have i0 : gI (sI N (B + 59) 0 (0 : Int32)) (B + 63) 1206 = nI s := by
    show (sI N (B + 59) 0 (0 : Int32)).1 (B + 63) 1206 = _
    rw [sI_ne (by omega)]; exact h0
  have k8b : gK Q (B + 59) = 8 := hP.1
  have r17b : gR Q (B + 59) 17 = some (B + 63) := by show Q.2.2.1 _ _ = _; simp only [hP]
  have kib : gK Q (B + 63) = 10 ∧ inb (1206 : Int32) (gN Q (B + 63)) := ⟨by show Q.2.2.2.1 _ = _; simp only [hP], by rw [show gN Q (B + 63) = 1407 by show Q.2.2.2.2.1 _ = _; simp only [hP]]; exact nI_in (c := 1206) (by omega) (by omega)⟩
  have n6 : ¬ nI s = (60 : Int32) := by
    show ¬ nI s = nI 60
    rw [nI_eq (by omega) (by omega)]; omega
  have eN0 : f_X8_keeps (B + 59) (sI N (B + 59) 0 (0 : Int32)) = some ((), Q) := eN
  rw [f_X8_year, ck_t k8, nm_s, ck_t k8a, r17, bR_s, ck_t ki, if_pos (show ¬ gI (sI N (B + 59) 0 (0 : Int32)) (B + 63) ((1206 : Int32)).toNatClampNeg = (60 : Int32) by rw [cl, i0]; exact n6), ck_t k8a, eN0, bd_s, ck_t k8b, r17b, bR_s, ck_t kib, ck_t kib, nm_s, cl, show gI Q (B + 63) 1206 = nI s from h1, show nI s + 1 = nI (s + 1) from nI_1 s, show (0 : Int32) = nI 0 from rfl]
theorem pr_year (hYr : YrOk) (hcc : c + 1 ≤ 600) : Pr B c (f_X7_year B) (f_X8_year (B + 59)) := by
  refine pr_d hcc (fun N => sI N (B + 59) 0 (nI 0)) g0 (fun M t T S hQ hR ht => ?_)
  have hW := hR.2.2.2.1
  have w0 := hW.1
  have hR2 := hR.th (j := 0) (v := nI 0)
  have y60 := hR.2.2.2.2.1.1
  have s0 := hQ.2.2.2.2.2.2.1.1
  have r0 := hR2.2.2.1 1206 (by omega)
  have hC : CmD B M.2.2 := hQ.1
  by_cases hy : S 1206 < 60
  · obtain ⟨y1, y2, y3⟩ := hYr T S c hW hR.2.2.2.2.1 hcc hy
    generalize hX : upS S 1206 (S 1206 + 1) = X at *
    refine Or.inr ⟨nI (yrC T (S 1206 + 1) X (T 0)), _, y3, fun N1 eN1 hQ1 => ?_, fun N P1 hRN eP1 hRP => ?_⟩
    · have s1 := hQ1.2.2.2.2.2.2.1.1
      have hC1 : CmD B N1.2.2 := hQ1.1
      have key := w_yl_lp (B := B) (t := t) (M := N1) (X := X) ht.2.2 ht.1 ht.2.1 (y := S 1206 + 1) (by omega) (by omega) y1 (R := fun o => ∃ N, o = some (nI (yrC T (S 1206 + 1) X (T 0)), N) ∧ N.2 = N1.2 ∧ (∀ b, (b < B + 15 ∨ B + 25 ≤ b) → (b < B + 44 ∨ B + 59 ≤ b) → N.1 b = N1.1 b) ∧ CS N.1 (B + 15) T (yrP T (S 1206 + 1) (yrL T (S 1206 + 1) X (T 0)) (T 0))) (fun m N Z c3 z3 y3 k3 => by
        have c4 := CV.yr (v := S 1206 + 1) c3 ht.2.2 (by omega)
        have z4 : ag cA (upS Z 1206 (S 1206 + 1)) (yrP T (S 1206 + 1) (yrL T (S 1206 + 1) X (T 0)) 0) := fun q hq => by
          by_cases e : q = 1206
          · subst e; rw [upS_eq, y2 0 (by omega)]
          · rw [upS_ne e]; exact z3 q ⟨e, hq.1, hq.2⟩
        obtain ⟨Q, Z5, eQ, c5, z5, k5⟩ := w_yp_lp (B := B) (t := t) (X := yrL T (S 1206 + 1) X (T 0)) ht.2.2 (y := S 1206 + 1) (by omega) y2 (v := nI (yrC T (S 1206 + 1) X (T 0))) (T 0) 0 FU (sI N (B + 15) 0 (nI (S 1206 + 1))) _ (by omega) (by unfold FU; omega) c4 z4
        have kyr : KB B N (sI N (B + 15) 0 (nI (S 1206 + 1))) := ⟨rfl, fun a h1 _ => sI_ne (by omega)⟩
        have kk := (k3.tr kyr).tr k5
        refine ⟨Q, ?_, kk.1, kk.2, CS.ag hW c5.2.2.2.2.2.2.1 (fun j h1 h2 => z5 j ⟨h1, h2⟩)⟩
        rw [yr_a c3]
        exact eQ) (T 0) 0 FU N1 S (by omega) (by unfold FU; omega) hQ1.v (fun q hq => by
          show S q = X q
          rw [← hX, upS_ne hq.1]) rfl ⟨rfl, fun _ _ _ => rfl⟩
      obtain ⟨N, eN, n1⟩ := key
      refine ⟨N, ?_, n1⟩
      rw [show yrC T (S 1206 + 1) X 0 = 0 from rfl] at eN
      rw [yr_b hQ.1 hQ.2.2.2.1 hQ1.1 hQ1.2.2.2.1 s0 s1 hy eN1]
      exact eN
    · have hR3 := hRN.th (j := 0) (v := nI 0)
      have rp := hRP.2.2.1 1206 (by omega)
      have hV := hRP.v.s (j := 1206) (v := S 1206 + 1) (hRP.v.2.2.2.2.up hW (by omega))
      rw [hX] at hV
      have hDP : RfD B P1.2.2 := hRP.1
      have k0 : KY B P1 (sI P1 (B + 63) 1206 (nI (S 1206 + 1))) := ⟨rfl, fun a _ h2 _ => sI_ne h2, fun j _ => by rw [sI_ne (by omega)]⟩
      have key := v_yl_lp (B := B) (M := P1) (X := X) (y := S 1206 + 1) (by omega) (by omega) y1 (R := fun o => ∃ P, o = some (nI (yrC T (S 1206 + 1) X (T 0)), P) ∧ RV B P T (yrP T (S 1206 + 1) (yrL T (S 1206 + 1) X (T 0)) (T 0)) ∧ KY B P1 P) (fun m N c3 k3 => by
        obtain ⟨Q, eQ, q1, q2⟩ := v_yp_lp (B := B) (X := yrL T (S 1206 + 1) X (T 0)) (y := S 1206 + 1) (by omega) y2 (v := nI (yrC T (S 1206 + 1) X (T 0))) (T 0) 0 FU N (by omega) (by unfold FU; omega) c3
        refine ⟨Q, ?_, q1, k3.tr q2⟩
        rw [yr_c c3]
        exact eQ) (T 0) 0 FU (sI P1 (B + 63) 1206 (nI (S 1206 + 1))) (by omega) (by unfold FU; omega) hV k0
      obtain ⟨P, eP, p1, p2⟩ := key
      have r3 := hR3.2.2.1 1206 (by omega)
      refine ⟨P, ?_, p2.1, fun b q1 q2 q3 _ => p2.2.1 b q1 q2 q3, ⟨p2.2.2 2 (by omega), p2.2.2 23 (by omega)⟩, p1.2.2.1⟩
      rw [show yrC T (S 1206 + 1) X 0 = 0 from rfl] at eP
      rw [yr_d hRN.1 hRP.1 (hRN.2.2.1 1206 (by omega)) rp hy eP1]
      exact eP
  · have e6 : S 1206 = 60 := by omega
    rw [e6] at s0 r0
    have n66 : (nI 60 = nI 60) = True := by decide
    have l66 : ¬ 60 < 60 := by omega
    exact Or.inl ⟨-nI 1, sI M (B + 59) 0 (nI 0), by simp (disch := omega) only [f_X7_year, reduceIte, ↓reduceIte, ↓ck_i, ↓nm_s, ↓bR_i, ↓bd_i, Option.isSome_some, Option.getD_some, gK, gR, gN, gIs, inb_nI, and_self, nI_clamp, fa_lit, pk_mul, nI_add, n10, n1z, n00, eq_self, not_true_eq_false, not_false_eq_true, hC.a, hQ.2.2.2.1, s0, nI_ltI, l66], by simp (disch := omega) only [f_X8_year, reduceIte, ↓reduceIte, ↓ck_i, ↓nm_s, ↓bR_i, ↓bd_i, Option.isSome_some, Option.getD_some, gK, gR, gN, gIs, inb_nI, and_self, nI_clamp, fa_lit, pk_mul, nI_add, n10, n1z, n00, eq_self, not_true_eq_false, not_false_eq_true, hR.1, hR2.1, r0, n66], KR.th (by omega) (by omega), rfl⟩
end YR5
