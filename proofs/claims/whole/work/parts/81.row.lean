/-! the row of years to come, on both sides -/
def bgR (T : Nat → Nat) (l p y : Nat) : Nat := if p < T (12 + 7 * l + 1) ∧ y ≠ T (12 + 7 * l + 3) ∧ T (12 + 7 * l + 4) ≠ 2 then 1 else 0
def csR (T : Nat → Nat) (l p y : Nat) : Nat := if p < T (12 + 7 * l + 1) ∧ y ≠ T (12 + 7 * l + 3) ∧ T (12 + 7 * l + 4) ≠ 2 then p else T (12 + 7 * l + 1)
def duR (T : Nat → Nat) (l p y s f : Nat) : Nat := if y = T (12 + 7 * l + 3) then s else if T (12 + 7 * l + 4) = 0 then T (12 + 7 * l) * y / T (12 + 7 * l + 3) + s - T (12 + 7 * l) else if T (12 + 7 * l + 4) = 1 then min s ((f + (T (12 + 7 * l + 5) - T (12 + 7 * l + 2) * s)) / csR T l p y) else 0
def fuR (T : Nat → Nat) (l p y s f : Nat) : Nat := if y = T (12 + 7 * l + 3) then f else if T (12 + 7 * l + 4) = 1 then f + (T (12 + 7 * l + 5) - T (12 + 7 * l + 2) * s) - duR T l p y s f * csR T l p y else f
/-- stand and fund at the beginning of the years from y on -/
def stR (T : Nat → Nat) (l : Nat) (pr : Nat → Nat) : Nat → Nat → Nat → Nat → Nat × Nat
  | _, s, f, 0 => (s, f)
  | y, s, f, i + 1 => stR T l pr (y + 1) (s - duR T l (pr y) y s f) (fuR T l (pr y) y s f) i
/-- as it may be at the beginning of a year -/
def RI (T : Nat → Nat) (l y s f : Nat) : Prop := s ≤ T (12 + 7 * l) ∧ f + 99999 * (21 - y) ≤ 100000000 ∧ (T (12 + 7 * l + 4) = 0 → s + T (12 + 7 * l) * (y - 1) / T (12 + 7 * l + 3) = T (12 + 7 * l))
section RI
variable {T : Nat → Nat} {l y s f p : Nat}
theorem ev_le (hW : TW T) (hl : l < T 0) (hy : y ≤ T (12 + 7 * l + 3)) : T (12 + 7 * l) * y / T (12 + 7 * l + 3) ≤ T (12 + 7 * l) := by
  have w := hW.2.2 l hl
  refine Nat.div_le_of_le_mul ?_
  rw [Nat.mul_comm]
  exact Nat.mul_le_mul_right _ hy
theorem RI.ge (h : RI T l y s f) (h0 : T (12 + 7 * l + 4) = 0) : T (12 + 7 * l) ≤ T (12 + 7 * l) * y / T (12 + 7 * l + 3) + s := by
  have h1 := h.2.2 h0
  have h2 : T (12 + 7 * l) * (y - 1) / T (12 + 7 * l + 3) ≤ T (12 + 7 * l) * y / T (12 + 7 * l + 3) := Nat.div_le_div_right (Nat.mul_le_mul_left _ (by omega))
  omega
theorem RI.du (hW : TW T) (hl : l < T 0) (h : RI T l y s f) (hy : y ≤ T (12 + 7 * l + 3)) : duR T l p y s f ≤ s := by
  have h1 := ev_le hW hl hy
  unfold duR
  split
  · exact Nat.le_refl s
  · split
    · omega
    · split
      · exact Nat.min_le_left _ _
      · exact Nat.zero_le _
theorem csR_rng (hW : TW T) (hl : l < T 0) (hp : 1 ≤ p) (hp2 : p ≤ 999) : 1 ≤ csR T l p y ∧ csR T l p y ≤ 999 := by
  have w := hW.2.2 l hl
  unfold csR
  split <;> omega
theorem du_cs {hW : TW T} (h1 : y ≠ T (12 + 7 * l + 3)) (h2 : T (12 + 7 * l + 4) = 1) : duR T l p y s f * csR T l p y ≤ f + (T (12 + 7 * l + 5) - T (12 + 7 * l + 2) * s) := by
  unfold duR
  rw [if_neg h1, if_neg (by omega), if_pos h2]
  exact Nat.le_trans (Nat.mul_le_mul_right _ (Nat.min_le_right _ _)) (Nat.div_mul_le_self _ _)
theorem RI.next (hW : TW T) (hl : l < T 0) (h : RI T l y s f) (h1 : 1 ≤ y) (hy : y < T (12 + 7 * l + 3)) : RI T l (y + 1) (s - duR T l p y s f) (fuR T l p y s f) := by
  have w := hW.2.2 l hl
  have hd := h.du (p := p) hW hl (by omega)
  have he := ev_le hW hl (y := y) (by omega)
  obtain ⟨a1, a2, a3⟩ := id h
  refine ⟨by omega, ?_, fun h0 => ?_⟩
  · have : fuR T l p y s f ≤ f + 99999 := by
      unfold fuR
      split
      · omega
      · split
        · omega
        · omega
    omega
  · have hg := h.ge h0
    rw [Nat.add_sub_cancel]
    unfold duR
    rw [if_neg (by omega), if_pos h0]
    omega
theorem RI.st (hW : TW T) (hl : l < T 0) {pr : Nat → Nat} : ∀ {i y s f : Nat}, RI T l y s f → 1 ≤ y → y + i ≤ T (12 + 7 * l + 3) → RI T l (y + i) (stR T l pr y s f i).1 (stR T l pr y s f i).2
  | 0, _, _, _, h, _, _ => h
  | i + 1, y, s, f, h, h1, h2 => by
    have := RI.st hW hl (pr := pr) (i := i) (h.next (p := pr y) hW hl h1 (by omega)) (by omega) (by omega)
    rw [show y + 1 + i = y + (i + 1) by omega] at this
    exact this
theorem stR_succ {pr : Nat → Nat} : ∀ {i y s f : Nat}, stR T l pr y s f (i + 1) = ((stR T l pr y s f i).1 - duR T l (pr (y + i)) (y + i) (stR T l pr y s f i).1 (stR T l pr y s f i).2, fuR T l (pr (y + i)) (y + i) (stR T l pr y s f i).1 (stR T l pr y s f i).2)
  | 0, _, _, _ => rfl
  | i + 1, y, s, f => by
    have := stR_succ (pr := pr) (i := i) (y := y + 1) (s := s - duR T l (pr y) y s f) (f := fuR T l (pr y) y s f)
    rw [show y + 1 + i = y + (i + 1) by omega] at this
    exact this
end RI
/-- the row of the component's is open for a loan -/
def RO (B : Nat) (M : Mm) (T S : Nat → Nat) (l : Nat) : Prop :=
  (M.1 (B + 44) 0 = nI (T (12 + 7 * l)) ∧ M.1 (B + 44) 1 = nI (T (12 + 7 * l + 1)) ∧ M.1 (B + 44) 2 = nI (T (12 + 7 * l + 2)) ∧ M.1 (B + 44) 3 = nI (T (12 + 7 * l + 4)) ∧ M.1 (B + 44) 4 = nI (T (12 + 7 * l + 5)) ∧ M.1 (B + 44) 5 = nI (S (1211 + l)) ∧ M.1 (B + 44) 8 = nI (S 1206 + 1) ∧ M.1 (B + 44) 9 = nI (T (12 + 7 * l + 3)) ∧ M.1 (B + 44) 10 = nI (ctS T S l 0)) ∧
  (∀ y, 1 ≤ y → y ≤ T (12 + 7 * l + 3) → M.1 (B + 45) y = nI (prS T S l y)) ∧ ∀ r, 1 ≤ r → r ≤ 9 → M.1 (B + 46) r = nI (T (40 + 10 * l + r))
theorem RO.of {B : Nat} {M N : Mm} {T S : Nat → Nat} {l : Nat} (h : RO B M T S l) (h1 : N.1 (B + 44) = M.1 (B + 44)) (h2 : N.1 (B + 45) = M.1 (B + 45)) (h3 : N.1 (B + 46) = M.1 (B + 46)) : RO B N T S l := by
  unfold RO
  rw [h1, h2, h3]
  exact h
/-- what the component's row says of a year -/
def RA (B : Nat) (M : Mm) (T : Nat → Nat) (l p y s f : Nat) : Prop := M.1 (B + 47) y = nI s ∧ M.1 (B + 48) y = nI (s * T (12 + 7 * l + 2)) ∧ M.1 (B + 49) y = nI (duR T l p y s f) ∧ M.1 (B + 50) y = nI (csR T l p y) ∧ M.1 (B + 51) y = nI (bgR T l p y) ∧ M.1 (B + 52) y = nI (fuR T l p y s f)
/-- what the reference's row says of a year -/
def QA (B : Nat) (M : Mm) (T : Nat → Nat) (l p y s f : Nat) : Prop := M.1 (B + 68) (6 * y) = nI s ∧ M.1 (B + 68) (6 * y + 1) = nI (s * T (12 + 7 * l + 2)) ∧ M.1 (B + 68) (6 * y + 2) = nI (duR T l p y s f) ∧ M.1 (B + 68) (6 * y + 3) = nI (csR T l p y) ∧ M.1 (B + 68) (6 * y + 4) = nI (bgR T l p y) ∧ M.1 (B + 68) (6 * y + 5) = nI (fuR T l p y s f)
section ROWC
variable {B t c l y s f p : Nat} {T S : Nat → Nat} {M N : Mm}
theorem p_setCost (hC : CmD B M.2.2) (hW : TW T) (hl : l < T 0) (h : RO B M T S l) (hy : y < 21) (hp : p ≤ 999) : f_X4_setCost (B + 44) (nI y) (nI p) M = some ((), sI (sI M (B + 51) y (nI (bgR T l p y))) (B + 50) y (nI (csR T l p y))) := by
  have w := hW.2.2 l hl
  by_cases h1 : T (12 + 7 * l + 1) ≤ p
  · have e1 : ¬ p < T (12 + 7 * l + 1) := by omega
    simp (disch := omega) only [f_X4_setCost, f_X4_setCost_44, reduceIte, ↓reduceIte, ↓ck_i, ↓nm_s, ↓bR_i, ↓bd_i, Option.isSome_some, Option.getD_some, gK, gR, gN, gIs, inb_nI, and_self, nI_clamp, fa_lit, pk_mul, nI_add, n10, n1z, n00, eq_self, not_true_eq_false, not_false_eq_true, sI_sh, sI_ne, hC.a, h.1, nI_leI, nI_eq, h1, bgR, csR, e1, false_and]
  · have e1 : p < T (12 + 7 * l + 1) := by omega
    by_cases h2 : y = T (12 + 7 * l + 3)
    · simp (disch := omega) only [f_X4_setCost, f_X4_setCost_44, reduceIte, ↓reduceIte, ↓ck_i, ↓nm_s, ↓bR_i, ↓bd_i, Option.isSome_some, Option.getD_some, gK, gR, gN, gIs, inb_nI, and_self, nI_clamp, fa_lit, pk_mul, nI_add, n10, n1z, n00, eq_self, not_true_eq_false, not_false_eq_true, sI_sh, sI_ne, hC.a, h.1, nI_leI, nI_eq, h1, bgR, csR, e1, h2, ne_eq, true_and, false_and]
    · by_cases h3 : T (12 + 7 * l + 4) = 2
      · simp (disch := omega) only [f_X4_setCost, f_X4_setCost_44, reduceIte, ↓reduceIte, ↓ck_i, ↓nm_s, ↓bR_i, ↓bd_i, Option.isSome_some, Option.getD_some, gK, gR, gN, gIs, inb_nI, and_self, nI_clamp, fa_lit, pk_mul, nI_add, n10, n1z, n00, eq_self, not_true_eq_false, not_false_eq_true, sI_sh, sI_ne, hC.a, h.1, nI_leI, nI_eq, h1, bgR, csR, e1, h2, h3, ne_eq, true_and, false_and]
      · simp (disch := omega) only [f_X4_setCost, f_X4_setCost_44, reduceIte, ↓reduceIte, ↓ck_i, ↓nm_s, ↓bR_i, ↓bd_i, Option.isSome_some, Option.getD_some, gK, gR, gN, gIs, inb_nI, and_self, nI_clamp, fa_lit, pk_mul, nI_add, n10, n1z, n00, eq_self, not_true_eq_false, not_false_eq_true, sI_sh, sI_ne, hC.a, h.1, nI_leI, nI_eq, h1, bgR, csR, e1, h2, h3, ne_eq, true_and, false_and]
theorem p_setDue (hC : CmD B M.2.2) (hW : TW T) (hl : l < T 0) (h : RO B M T S l) (h1 : 1 ≤ y) (hy : y ≤ T (12 + 7 * l + 3)) (hi : RI T l y s f) (hp : 1 ≤ p) (hp2 : p ≤ 999) (e7 : M.1 (B + 47) y = nI s) (e8 : M.1 (B + 48) y = nI (s * T (12 + 7 * l + 2))) (e0 : M.1 (B + 50) y = nI (csR T l p y)) (e2 : M.1 (B + 52) y = nI f) :
    ∃ N, f_X4_setDue (B + 44) (nI y) M = some ((), N) ∧ N.2 = M.2 ∧ (∀ a, a ≠ B + 49 → a ≠ B + 52 → N.1 a = M.1 a) ∧ (∀ a i, i ≠ y → N.1 a i = M.1 a i) ∧ N.1 (B + 49) y = nI (duR T l p y s f) ∧ N.1 (B + 52) y = nI (fuR T l p y s f) := by
  have w := hW.2.2 l hl
  have hd := hi.du (p := p) hW hl hy
  have hcs := csR_rng (y := y) hW hl hp hp2
  obtain ⟨i1, i2, i3⟩ := id hi
  by_cases c1 : y = T (12 + 7 * l + 3)
  · refine ⟨sI M (B + 49) y (nI s), ?_, rfl, fun a a1 _ => sI_ne a1, fun a i hi => sI_oth hi, ?_, ?_⟩
    · simp (disch := omega) only [f_X4_setDue, reduceIte, ↓reduceIte, ↓ck_i, ↓nm_s, ↓bR_i, ↓bd_i, Option.isSome_some, Option.getD_some, gK, gR, gN, gIs, inb_nI, and_self, nI_clamp, fa_lit, pk_mul, nI_add, n10, n1z, n00, eq_self, not_true_eq_false, not_false_eq_true, sI_sh, sI_ne, hC.a, h.1, nI_eq, c1]
      rw [← c1, e7]
    · rw [sI_hit]; unfold duR; rw [if_pos c1]
    · rw [sI_ne (by omega), e2]; unfold fuR; rw [if_pos c1]
  · by_cases c2 : T (12 + 7 * l + 4) = 0
    · have hg := hi.ge c2
      have he := ev_le hW hl hy
      have hm : T (12 + 7 * l) * y ≤ 60 * 20 := Nat.mul_le_mul (by omega) (by omega)
      refine ⟨sI M (B + 49) y (nI (T (12 + 7 * l) * y / T (12 + 7 * l + 3) + s - T (12 + 7 * l))), ?_, rfl, fun a a1 _ => sI_ne a1, fun a i hi => sI_oth hi, ?_, ?_⟩
      · have b1 : ¬ T (12 + 7 * l + 3) ≤ 0 := by omega
        have b2 : ¬ T (12 + 7 * l + 3) = 0 := by omega
        simp (disch := omega) only [f_X4_setDue, reduceIte, ↓reduceIte, ↓ck_i, ↓nm_s, ↓bR_i, ↓bd_i, Option.isSome_some, Option.getD_some, gK, gR, gN, gIs, inb_nI, and_self, nI_clamp, fa_lit, pk_mul, nI_add, n10, n1z, n00, eq_self, not_true_eq_false, not_false_eq_true, sI_sh, sI_ne, hC.a, h.1, nI_eq, nI_leI, c1, c2, e7, b1, b2, pk_div, pk_sub]
        rw [show T (12 + 7 * l) * y / T (12 + 7 * l + 3) - (T (12 + 7 * l) - s) = T (12 + 7 * l) * y / T (12 + 7 * l + 3) + s - T (12 + 7 * l) by omega]
      · rw [sI_hit]; unfold duR; rw [if_neg c1, if_pos c2]
      · rw [sI_ne (by omega), e2]; unfold fuR; rw [if_neg c1, if_neg (by omega)]
    · by_cases c3 : T (12 + 7 * l + 4) = 1
      · have hx := du_cs (hW := hW) (p := p) (s := s) (f := f) c1 c3
        have hm : s * T (12 + 7 * l + 2) ≤ 60 * 99 := Nat.mul_le_mul (by omega) (by omega)
        have hco : T (12 + 7 * l + 2) * s = s * T (12 + 7 * l + 2) := Nat.mul_comm _ _
        have hq : (f + (T (12 + 7 * l + 5) - s * T (12 + 7 * l + 2))) / csR T l p y ≤ f + (T (12 + 7 * l + 5) - s * T (12 + 7 * l + 2)) := Nat.div_le_self _ _
        have hdu : duR T l p y s f = min s ((f + (T (12 + 7 * l + 5) - s * T (12 + 7 * l + 2))) / csR T l p y) := by unfold duR; rw [if_neg c1, if_neg c2, if_pos c3, hco]
        rw [hco] at hx
        refine ⟨sI (sI (sI M (B + 52) y (nI (f + (T (12 + 7 * l + 5) - s * T (12 + 7 * l + 2))))) (B + 49) y (nI (duR T l p y s f))) (B + 52) y (nI (f + (T (12 + 7 * l + 5) - s * T (12 + 7 * l + 2)) - duR T l p y s f * csR T l p y)), ?_, rfl, fun a a1 a2 => by rw [sI_ne a2, sI_ne a1, sI_ne a2], fun a i hi => by rw [sI_oth hi, sI_oth hi, sI_oth hi], ?_, ?_⟩
        · have b1 : ¬ csR T l p y ≤ 0 := by omega
          have b2 : ¬ csR T l p y = 0 := by omega
          simp (disch := omega) only [f_X4_setDue, f_X4_setDue_147, reduceIte, ↓reduceIte, ↓ck_i, ↓nm_s, ↓bR_i, ↓bd_i, Option.isSome_some, Option.getD_some, gK, gR, gN, gIs, inb_nI, and_self, nI_clamp, fa_lit, pk_mul, nI_add, n10, n1z, n00, eq_self, not_true_eq_false, not_false_eq_true, sI_sh, sI_ne, sI_hit, hC.a, h.1, nI_eq, nI_leI, c1, c2, c3, e7, e8, e0, e2, j_max0, j_min, b1, b2, pk_div, ← hdu, pk_sub]
        · rw [sI_ne (by omega), sI_hit]
        · rw [sI_hit]; unfold fuR; rw [if_neg c1, if_pos c3, hco]
      · refine ⟨sI M (B + 49) y (nI 0), ?_, rfl, fun a a1 _ => sI_ne a1, fun a i hi => sI_oth hi, ?_, ?_⟩
        · simp (disch := omega) only [f_X4_setDue, reduceIte, ↓reduceIte, ↓ck_i, ↓nm_s, ↓bR_i, ↓bd_i, Option.isSome_some, Option.getD_some, gK, gR, gN, gIs, inb_nI, and_self, nI_clamp, fa_lit, pk_mul, nI_add, n10, n1z, n00, eq_self, not_true_eq_false, not_false_eq_true, sI_sh, sI_ne, hC.a, h.1, nI_eq, c1, c2, c3]
        · rw [sI_hit]; unfold duR; rw [if_neg c1, if_neg c2, if_neg c3]
        · rw [sI_ne (by omega), e2]; unfold fuR; rw [if_neg c1, if_neg c3]
theorem p_run_lp (hW : TW T) (hl : l < T 0) {oy op : Nat} (hoy : oy < 100) {pr : Nat → Nat} (hpr : ∀ y, 1 ≤ y → y ≤ T (12 + 7 * l + 3) → pr y = (if y = oy then op else prS T S l y) ∧ 1 ≤ pr y ∧ pr y ≤ 999) :
    ∀ (d y n s f : Nat) (M : Mm), d = T (12 + 7 * l + 3) + 1 - y → 1 ≤ y → y < 100 → d < n → CmD B M.2.2 → RO B M T S l → (0 < d → RI T l y s f) → ∃ N, f_X4_run_20 n (B + 44) (nI oy) (nI op) (nI s) (nI f) (nI y) M = some ((), N) ∧ N.2 = M.2 ∧ (∀ a, a < B + 47 ∨ B + 53 ≤ a → N.1 a = M.1 a) ∧ (∀ a i, i < y → N.1 a i = M.1 a i) ∧ ∀ i, i < d → RA B N T l (pr (y + i)) (y + i) (stR T l pr y s f i).1 (stR T l pr y s f i).2 := by
  have w := hW.2.2 l hl
  intro d
  induction d with
  | zero =>
    intro y n s f M hy h1 hy9 hn hC h hi
    obtain ⟨n, rfl⟩ : ∃ m, n = m + 1 := ⟨n - 1, by omega⟩
    have e : T (12 + 7 * l + 3) < y := by omega
    refine ⟨M, ?_, rfl, fun _ _ => rfl, fun _ _ _ => rfl, fun i hi => absurd hi (by omega)⟩
    simp (disch := omega) only [f_X4_run_20, reduceIte, ↓reduceIte, ↓ck_i, ↓nm_s, ↓bR_i, ↓bd_i, Option.isSome_some, Option.getD_some, gK, gR, gN, gIs, inb_nI, and_self, nI_clamp, fa_lit, pk_mul, nI_add, n10, n1z, n00, eq_self, not_true_eq_false, not_false_eq_true, hC.a, h.1, nI_ltI, e]
  | succ d ih =>
    intro y n s f M hy h1 hy9 hn hC h hi
    have hi := hi (by omega)
    obtain ⟨n, rfl⟩ : ∃ m, n = m + 1 := ⟨n - 1, by omega⟩
    have e : ¬ T (12 + 7 * l + 3) < y := by omega
    obtain ⟨q1, q2, q3⟩ := hpr y h1 (by omega)
    have hd := hi.du (p := pr y) hW hl (by omega)
    have hpy := h.2.1 y h1 (by omega)
    have hA : RO B (sI (sI M (B + 47) y (nI s)) (B + 48) y (nI (s * T (12 + 7 * l + 2)))) T S l := h.of (by rw [sI_ne (by omega), sI_ne (by omega)]) (by rw [sI_ne (by omega), sI_ne (by omega)]) (by rw [sI_ne (by omega), sI_ne (by omega)])
    have s1 := p_setCost (M := sI (sI M (B + 47) y (nI s)) (B + 48) y (nI (s * T (12 + 7 * l + 2)))) (y := y) (p := pr y) hC hW hl hA (by omega) q3
    obtain ⟨N, eN, n1, n2, n3, n4, n5⟩ := p_setDue (M := sI (sI (sI (sI (sI M (B + 47) y (nI s)) (B + 48) y (nI (s * T (12 + 7 * l + 2)))) (B + 51) y (nI (bgR T l (pr y) y))) (B + 50) y (nI (csR T l (pr y) y))) (B + 52) y (nI f)) (y := y) (p := pr y) (s := s) (f := f) (S := S) hC hW hl (hA.of (by rw [sI_ne (by omega), sI_ne (by omega), sI_ne (by omega)]) (by rw [sI_ne (by omega), sI_ne (by omega), sI_ne (by omega)]) (by rw [sI_ne (by omega), sI_ne (by omega), sI_ne (by omega)])) h1 (by omega) hi q2 q3 (by rw [sI_ne (by omega), sI_ne (by omega), sI_ne (by omega), sI_ne (by omega), sI_hit]) (by rw [sI_ne (by omega), sI_ne (by omega), sI_ne (by omega), sI_hit]) (by rw [sI_ne (by omega), sI_hit]) (by rw [sI_hit])
    have o2 : ∀ a, a < B + 47 ∨ B + 53 ≤ a → N.1 a = M.1 a := fun a ha => by rw [n2 a (by omega) (by omega), sI_ne (by omega), sI_ne (by omega), sI_ne (by omega), sI_ne (by omega), sI_ne (by omega)]
    have o3 : ∀ a i, i ≠ y → N.1 a i = M.1 a i := fun a i ha => by rw [n3 a i ha, sI_oth ha, sI_oth ha, sI_oth ha, sI_oth ha, sI_oth ha]
    have r7 : N.1 (B + 47) y = nI s := by rw [n2 _ (by omega) (by omega), sI_ne (by omega), sI_ne (by omega), sI_ne (by omega), sI_ne (by omega), sI_hit]
    have r8 : N.1 (B + 48) y = nI (s * T (12 + 7 * l + 2)) := by rw [n2 _ (by omega) (by omega), sI_ne (by omega), sI_ne (by omega), sI_ne (by omega), sI_hit]
    have r0 : N.1 (B + 50) y = nI (csR T l (pr y) y) := by rw [n2 _ (by omega) (by omega), sI_ne (by omega), sI_hit]
    have r1 : N.1 (B + 51) y = nI (bgR T l (pr y) y) := by rw [n2 _ (by omega) (by omega), sI_ne (by omega), sI_ne (by omega), sI_hit]
    have hCN : CmD B N.2.2 := by rw [n1]; exact hC
    obtain ⟨P, eP, p1, p2, p3, p4⟩ := ih (y + 1) n (s - duR T l (pr y) y s f) (fuR T l (pr y) y s f) N (by omega) (by omega) (by omega) (by omega) hCN (h.of (o2 _ (by omega)) (o2 _ (by omega)) (o2 _ (by omega))) (fun _ => hi.next hW hl h1 (by omega))
    refine ⟨P, ?_, p1.trans n1, fun a ha => (p2 a ha).trans (o2 a ha), fun a i hi => (p3 a i (by omega)).trans (o3 a i (by omega)), fun i hi => ?_⟩
    · by_cases hyo : y = oy
      · rw [if_pos hyo] at q1
        rw [q1] at s1 eN n4 n5
        rw [q1] at eP
        rw [q1] at hd
        have hy21 : y < 21 := by omega
        clear hpr
        subst hyo
        simp (disch := omega) only [f_X4_run_20, f_X4_run_72, reduceIte, ↓reduceIte, ↓ck_i, ↓nm_s, ↓bR_i, ↓bd_i, Option.isSome_some, Option.getD_some, gK, gR, gN, gIs, inb_nI, and_self, nI_clamp, fa_lit, pk_mul, nI_add, n10, n1z, n00, eq_self, not_true_eq_false, not_false_eq_true, sI_sh, sI_ne, hC.a, hCN.a, h.1, nI_ltI, e, s1, eN, n4, n5, pk_sub]
        exact eP
      · rw [if_neg hyo] at q1
        rw [q1] at s1 eN n4 n5
        rw [q1] at eP
        rw [q1] at hd
        have hy21 : y < 21 := by omega
        clear hpr
        simp (disch := omega) only [f_X4_run_20, f_X4_run_72, reduceIte, ↓reduceIte, ↓ck_i, ↓nm_s, ↓bR_i, ↓bd_i, Option.isSome_some, Option.getD_some, gK, gR, gN, gIs, inb_nI, and_self, nI_clamp, fa_lit, pk_mul, nI_add, n10, n1z, n00, eq_self, not_true_eq_false, not_false_eq_true, sI_sh, sI_ne, hC.a, hCN.a, h.1, nI_ltI, nI_eq, e, hyo, hpy, s1, eN, n4, n5, pk_sub]
        exact eP
    · rcases i with _ | i
      · show RA B P T l (pr y) y s f
        have z : ∀ a, P.1 a y = N.1 a y := fun a => p3 a y (by omega)
        exact ⟨by rw [z]; exact r7, by rw [z]; exact r8, by rw [z]; exact n4, by rw [z]; exact r0, by rw [z]; exact r1, by rw [z]; exact n5⟩
      · have := p4 i (by omega)
        rw [show y + 1 + i = y + (i + 1) by omega] at this
        exact this
end ROWC
