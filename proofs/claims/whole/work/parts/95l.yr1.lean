/-! year: what it does to what is so, step by step, in the reference's order -/
def stnd (X : Nat → Nat) (l k : Nat) : Bool := decide (X (60 * l + k) = 0)
/-- interest of one bond -/
def inS1 (T : Nat → Nat) (l : Nat) (X : Nat → Nat) (k : Nat) : Nat → Nat := if X (60 * l + k) = 0 then upS (pyS (upS X (960 + 60 * l + k) (X (960 + 60 * l + k) + T (12 + 7 * l + 2))) (X (240 + 60 * l + k)) (T (12 + 7 * l + 2))) (1383 + 6 * l) (X (1383 + 6 * l) + T (12 + 7 * l + 2)) else X
def inS (T : Nat → Nat) (l : Nat) (X : Nat → Nat) : Nat → Nat → Nat
  | 0 => X
  | k + 1 => inS1 T l (inS T l X k) k
/-- one bond is retired -/
def reS (T : Nat → Nat) (l y bt cst : Nat) (X : Nat → Nat) (k r : Nat) : Nat → Nat :=
  if bt = 0 then upS (upS (upS X (480 + 60 * l + k) y) (720 + 60 * l + k) r) (60 * l + k) 1
  else upS (upS (pyS (upS (upS (upS (upS X (480 + 60 * l + k) y) (720 + 60 * l + k) r) (60 * l + k) 3) (960 + 60 * l + k) (X (960 + 60 * l + k) + cst)) (X (240 + 60 * l + k)) cst) (1383 + 6 * l + 2) (X (1383 + 6 * l + 2) + cst)) (1383 + 6 * l + 5) (X (1383 + 6 * l + 5) + (T (12 + 7 * l + 1) - cst))
/-- one draw -/
def drS1 (T : Nat → Nat) (l y bt cst : Nat) (X : Nat → Nat) (r : Nat) : Nat → Nat :=
  reS T l y bt cst (upS X (1207 + l) (tuS (X (1207 + l)))) (kt (stnd X l) (T (12 + 7 * l)) (tuS (X (1207 + l)) % fb_ct (stnd X l) (T (12 + 7 * l)))) r
def drS (T : Nat → Nat) (l y bt cst : Nat) (X : Nat → Nat) : Nat → Nat → Nat
  | 0 => X
  | r + 1 => drS1 T l y bt cst (drS T l y bt cst X r) (r + 1)
def laS1 (T : Nat → Nat) (l y : Nat) (X : Nat → Nat) (k : Nat) : Nat → Nat := if X (60 * l + k) = 1 ∧ T (12 + 7 * l + 6) ≤ y - X (480 + 60 * l + k) then upS (upS X (60 * l + k) 4) (1383 + 6 * l + 3) (X (1383 + 6 * l + 3) + dsS T X l k) else X
def laS (T : Nat → Nat) (l y : Nat) (X : Nat → Nat) : Nat → Nat → Nat
  | 0 => X
  | k + 1 => laS1 T l y (laS T l y X k) k
/-- two states agree where P says so -/
def ag (P : Nat → Prop) (Z X : Nat → Nat) : Prop := ∀ j, P j → Z j = X j
section AG
variable {P : Nat → Prop} {Z X : Nat → Nat} {j v g p : Nat}
theorem ag.up (h : ag P Z X) : ag P (upS Z j v) (upS X j v) := fun q hq => by
  unfold upS
  split
  · rfl
  · exact h q hq
theorem ag.rf (h : ag P Z X) (hj : ¬ P j) : ag P Z (upS X j v) := fun q hq => by
  rw [upS_ne (fun e => hj (by rw [← e]; exact hq))]; exact h q hq
theorem ag.lf (h : ag P Z X) (hj : ¬ P j) : ag P (upS Z j v) X := fun q hq => by
  rw [upS_ne (fun e => hj (by rw [← e]; exact hq))]; exact h q hq
theorem ag.py (h : ag P Z X) (hg : g = 0 ∨ P (1200 + (g - 1))) : ag P (pyS Z g p) (pyS X g p) := by
  unfold pyS
  split
  · exact h
  · rename_i h0
    rw [h _ (hg.resolve_left h0)]
    exact h.up
end AG
section YR1
variable {B t c l y : Nat} {T S X Z : Nat → Nat} {M N Q : Mm}
/-- where the component has what the reference has -/
def cP (j : Nat) : Prop := j ≠ 1206 ∧ (j < 960 ∨ 1200 ≤ j) ∧ j < 1383
theorem CS.ag {I : Im} {a : Nat} (hW : TW T) (h : CS I a T Z) (e : ∀ j, (j < 960 ∨ 1200 ≤ j) → j < 1383 → Z j = X j) : CS I a T X := by
  have w0 := hW.1
  have w1 := hW.2.1
  obtain ⟨h1, h2, h3, h4, h5⟩ := h
  refine ⟨by rw [← e 1206 (by omega) (by omega)]; exact h1, fun q hq => by rw [← e _ (by omega) (by omega)]; exact h2 q hq, fun l hl => by rw [← e (1207 + l) (by omega) (by omega), ← e (1211 + l) (by omega) (by omega)]; exact h3 l hl, fun l hl y y1 y2 => ?_, fun l hl k hk => ?_⟩
  · have w := (hW.2.2 l hl).2.2.2.2.2.2.1
    rw [← prS_cong (e (1215 + 21 * l + y) (by omega) (by omega)), ← e (1299 + 21 * l + y) (by omega) (by omega)]
    exact h4 l hl y y1 y2
  · have w := (hW.2.2 l hl).2.1
    rw [← e (60 * l + k) (by omega) (by omega), ← e (240 + 60 * l + k) (by omega) (by omega), ← e (480 + 60 * l + k) (by omega) (by omega), ← e (720 + 60 * l + k) (by omega) (by omega)]
    exact h5 l hl k hk
theorem inS_at (hl4 : l < 4) : ∀ {k j : Nat}, k ≤ 60 → (∀ i, i < k → X (240 + 60 * l + i) ≤ 6) → (j < 960 ∨ 1206 ≤ j) → j ≠ 1383 + 6 * l → inS T l X k j = X j
  | 0, _, _, _, _, _ => rfl
  | k + 1, j, hk, hX, h1, h2 => by
    have ih := inS_at hl4 (k := k) (j := j) (by omega) (fun i hi => hX i (by omega)) h1 h2
    have ih2 := inS_at hl4 (k := k) (j := 240 + 60 * l + k) (by omega) (fun i hi => hX i (by omega)) (by omega) (by omega)
    have h6 := hX k (by omega)
    show inS1 T l (inS T l X k) k j = X j
    unfold inS1
    split
    · rw [upS_ne h2, pyS_at (by omega), upS_ne (by omega)]; exact ih
    · exact ih
/-- interest, the reference's -/
theorem v_int_lp (hl : l < T 0) : ∀ (d k n : Nat) (M : Mm) (v2 v3 : Int32), k + d = T (12 + 7 * l) → d < n → RV B M T (inS T l X k) → ∃ N, f_X8_loanYear_19 n (B + 59) (nI l) v2 v3 (nI (k + 1)) M = f_X8_loanYear_19 (n - d) (B + 59) (nI l) v2 v3 (nI (T (12 + 7 * l) + 1)) N ∧ RV B N T (inS T l X (T (12 + 7 * l))) ∧ KQ B M N := by
  intro d
  induction d with
  | zero =>
    intro k n M v2 v3 hk hn hR
    have hk : k = T (12 + 7 * l) := by omega
    subst hk
    exact ⟨M, rfl, hR, KQ.rf⟩
  | succ d ih =>
    intro k n M v2 v3 hk hn hR
    obtain ⟨n, rfl⟩ : ∃ q, n = q + 1 := ⟨n - 1, by omega⟩
    have w := (hR.2.2.2.1.2.2 l hl).2.1
    have wc := (hR.2.2.2.1.2.2 l hl).2.2.2.2.1
    have w0 := hR.2.2.2.1.1
    have w1 := hR.2.2.2.1.2.1
    have hk2 : ¬ T (12 + 7 * l) < k + 1 := by omega
    have lo := v_loanOf hR hl (w := 0) (by omega)
    have s6 := hR.2.2.1 (60 * l + k) (by omega)
    have v4 := (hR.2.2.2.2.2.2.2.2 l hl k (by omega)).1
    have v5 := (hR.2.2.2.2.2.2.2.2 l hl k (by omega)).2.1
    have a2 : 240 + (60 * l + k) = 240 + 60 * l + k := by omega
    have a9 : 960 + (60 * l + k) = 960 + 60 * l + k := by omega
    have hD : RfD B M.2.2 := hR.1
    by_cases hs : inS T l X k (60 * l + k) = 0
    · have s9 := hR.2.2.1 (960 + 60 * l + k) (by omega)
      have hV := hR.s (j := 960 + 60 * l + k) (v := inS T l X k (960 + 60 * l + k) + T (12 + 7 * l + 2)) (hR.2.2.2.2.up hR.2.2.2.1 (by omega))
      have lo2 := v_loanOf hR hl (w := 2) (by omega)
      have lo2b := v_loanOf hV hl (w := 2) (by omega)
      have s7 := hV.2.2.1 (240 + 60 * l + k) (by omega)
      rw [upS_ne (by omega)] at s7
      obtain ⟨N3, eN3, hV3, k3⟩ := v_pay (g := inS T l X k (240 + 60 * l + k)) (p := T (12 + 7 * l + 2)) hV v5 (by omega)
      have sp := hV3.2.2.1 (1383 + 6 * l) (by omega)
      rw [pyS_at (by omega), upS_ne (by omega)] at sp
      have lo2c := v_loanOf hV3 hl (w := 2) (by omega)
      have hV4 := hV3.s (j := 1383 + 6 * l) (v := inS T l X k (1383 + 6 * l) + T (12 + 7 * l + 2)) (hV3.2.2.2.2.up hR.2.2.2.1 (by omega))
      have e1 : inS T l X (k + 1) = upS (pyS (upS (inS T l X k) (960 + 60 * l + k) (inS T l X k (960 + 60 * l + k) + T (12 + 7 * l + 2))) (inS T l X k (240 + 60 * l + k)) (T (12 + 7 * l + 2))) (1383 + 6 * l) (inS T l X k (1383 + 6 * l) + T (12 + 7 * l + 2)) := by
        show inS1 T l (inS T l X k) k = _
        unfold inS1
        rw [if_pos hs]
      rw [← e1] at hV4
      obtain ⟨N, eN, n1, n2⟩ := ih (k + 1) n (sI N3 (B + 63) (1383 + 6 * l) (nI (inS T l X k (1383 + 6 * l) + T (12 + 7 * l + 2)))) v2 v3 (by omega) (by omega) hV4
      refine ⟨N, ?_, n1, ((KQ.s.tr k3).tr KQ.s).tr n2⟩
      rw [show n + 1 - (d + 1) = n - d by omega, ← eN]
      rw [hs] at s6
      simp (disch := omega) only [f_X8_loanYear_19, reduceIte, ↓reduceIte, ↓ck_i, ↓nm_s, ↓bR_i, ↓bd_i, Option.isSome_some, Option.getD_some, gK, gR, gN, gIs, inb_nI, and_self, nI_clamp, fa_lit, pk_mul, nI_add, n10, n1z, n00, eq_self, not_true_eq_false, not_false_eq_true, hD.a, lo, Nat.add_zero, nI_ltI, hk2, p_bondAt, Nat.zero_add, a2, a9, s6, s9, lo2, hV.1, s7, lo2b, eN3, hV3.1, sp, lo2c]
    · have e1 : inS T l X (k + 1) = inS T l X k := by
        show inS1 T l (inS T l X k) k = _
        unfold inS1
        rw [if_neg hs]
      obtain ⟨N, eN, n1, n2⟩ := ih (k + 1) n M v2 v3 (by omega) (by omega) (by rw [e1]; exact hR)
      refine ⟨N, ?_, n1, n2⟩
      rw [show n + 1 - (d + 1) = n - d by omega, ← eN]
      simp (disch := omega) only [f_X8_loanYear_19, reduceIte, ↓reduceIte, ↓ck_i, ↓nm_s, ↓bR_i, ↓bd_i, Option.isSome_some, Option.getD_some, gK, gR, gN, gIs, inb_nI, and_self, nI_clamp, fa_lit, pk_mul, nI_add, n10, n1z, n00, eq_self, not_true_eq_false, not_false_eq_true, hD.a, lo, Nat.add_zero, nI_ltI, hk2, p_bondAt, Nat.zero_add, s6, nI_eq, hs]
/-- interest, the component's -/
theorem w_int_lp (hT : t + 14 ≤ B + 15 ∨ B + 25 ≤ t) (hl : l < T 0) : ∀ (d k n : Nat) (M : Mm) (Z : Nat → Nat), k + d = T (12 + 7 * l) → d < n → CV B t M T Z → ag cP Z (inS T l X k) → ∃ N Z2, f_X7_payInterest_2 n B (nI l) (nI (k + 1)) M = some ((), N) ∧ CV B t N T Z2 ∧ ag cP Z2 (inS T l X (T (12 + 7 * l))) ∧ Z2 1206 = Z 1206 ∧ KS B M N := by
  intro d
  induction d with
  | zero =>
    intro k n M Z hk hn hQ hZ
    obtain ⟨n, rfl⟩ : ∃ q, n = q + 1 := ⟨n - 1, by omega⟩
    have w := (hQ.2.2.2.2.1.2.2 l hl).2.1
    have w0 := hQ.2.2.2.2.1.1
    have hk : k = T (12 + 7 * l) := by omega
    subst hk
    have c2 := (hQ.2.2.2.2.2.1.2.2.1 l hl).1
    refine ⟨M, Z, ?_, hQ, hZ, rfl, KS.rf⟩
    simp (disch := omega) only [f_X7_payInterest_2, reduceIte, ↓reduceIte, ↓ck_i, ↓nm_s, ↓bR_i, ↓bd_i, Option.isSome_some, Option.getD_some, gK, gR, gN, gIs, inb_nI, and_self, nI_clamp, fa_lit, pk_mul, nI_add, n10, n1z, n00, eq_self, not_true_eq_false, not_false_eq_true, hQ.1, hQ.2.1, hQ.2.2.1, c2, nI_ltI, Nat.lt_succ_self]
  | succ d ih =>
    intro k n M Z hk hn hQ hZ
    obtain ⟨n, rfl⟩ : ∃ q, n = q + 1 := ⟨n - 1, by omega⟩
    have w := (hQ.2.2.2.2.1.2.2 l hl).2.1
    have wc := (hQ.2.2.2.2.1.2.2 l hl).2.2.2.2.1
    have w0 := hQ.2.2.2.2.1.1
    have w1 := hQ.2.2.2.2.1.2.1
    have hk2 : ¬ T (12 + 7 * l) < k + 1 := by omega
    have c2 := hQ.2.2.2.2.2.1.2.2.1 l hl
    have cb := c2.1
    have cc := c2.2.2.1
    clear c2
    have s6 := (hQ.2.2.2.2.2.2.1.2.2.2.2 l hl k (by omega)).1
    have s7 := (hQ.2.2.2.2.2.2.1.2.2.2.2 l hl k (by omega)).2.1
    have v4 := (hQ.2.2.2.2.2.2.2.2.2.2.2 l hl k (by omega)).1
    have v5 := (hQ.2.2.2.2.2.2.2.2.2.2.2 l hl k (by omega)).2.1
    have z6 := hZ (60 * l + k) ⟨by omega, by omega, by omega⟩
    have z7 := hZ (240 + 60 * l + k) ⟨by omega, by omega, by omega⟩
    by_cases hs : inS T l X k (60 * l + k) = 0
    · obtain ⟨N3, eN3, hV3, k3⟩ := w_pay (g := Z (240 + 60 * l + k)) (p := T (12 + 7 * l + 2)) hQ hT v5 (by omega)
      have e1 : inS T l X (k + 1) = upS (pyS (upS (inS T l X k) (960 + 60 * l + k) (inS T l X k (960 + 60 * l + k) + T (12 + 7 * l + 2))) (inS T l X k (240 + 60 * l + k)) (T (12 + 7 * l + 2))) (1383 + 6 * l) (inS T l X k (1383 + 6 * l) + T (12 + 7 * l + 2)) := by
        show inS1 T l (inS T l X k) k = _
        unfold inS1
        rw [if_pos hs]
      have hZ2 : ag cP (pyS Z (Z (240 + 60 * l + k)) (T (12 + 7 * l + 2))) (inS T l X (k + 1)) := by
        rw [e1, ← z7]
        refine ag.rf (ag.py (ag.rf hZ (fun q => by have := q.2.1; omega)) ?_) (fun q => by have := q.2.2; omega)
        by_cases hg : Z (240 + 60 * l + k) = 0
        · exact Or.inl hg
        · exact Or.inr ⟨by omega, by omega, by omega⟩
      obtain ⟨N, Z2, eN, n1, n2, n3, n4⟩ := ih (k + 1) n N3 _ (by omega) (by omega) hV3 hZ2
      refine ⟨N, Z2, ?_, n1, n2, by rw [n3, pyS_at (by omega)], k3.tr n4⟩
      rw [← eN]
      rw [z6, hs] at s6
      simp (disch := omega) only [f_X7_payInterest_2, reduceIte, ↓reduceIte, ↓ck_i, ↓nm_s, ↓bR_i, ↓bd_i, Option.isSome_some, Option.getD_some, gK, gR, gN, gIs, inb_nI, and_self, nI_clamp, fa_lit, pk_mul, nI_add, n10, n1z, n00, eq_self, not_true_eq_false, not_false_eq_true, hQ.1, hQ.2.1, hQ.2.2.1, hQ.2.2.2.1, cb, cc, nI_ltI, hk2, p_spotOf, s6, s7, eN3]
    · have e1 : inS T l X (k + 1) = inS T l X k := by
        show inS1 T l (inS T l X k) k = _
        unfold inS1
        rw [if_neg hs]
      obtain ⟨N, Z2, eN, n1, n2, n3, n4⟩ := ih (k + 1) n M Z (by omega) (by omega) hQ (by rw [e1]; exact hZ)
      refine ⟨N, Z2, ?_, n1, n2, n3, n4⟩
      rw [← eN]
      rw [← z6] at hs
      simp (disch := omega) only [f_X7_payInterest_2, reduceIte, ↓reduceIte, ↓ck_i, ↓nm_s, ↓bR_i, ↓bd_i, Option.isSome_some, Option.getD_some, gK, gR, gN, gIs, inb_nI, and_self, nI_clamp, fa_lit, pk_mul, nI_add, n10, n1z, n00, eq_self, not_true_eq_false, not_false_eq_true, hQ.1, hQ.2.1, hQ.2.2.1, hQ.2.2.2.1, cb, nI_ltI, hk2, p_spotOf, s6, nI_eq, hs]
end YR1
