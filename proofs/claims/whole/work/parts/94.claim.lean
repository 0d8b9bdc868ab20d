/-! claim, image -/
/-- the state when the first n bonds of a loan are claimed by the holder h -/
def clP (S : Nat → Nat) (l h k : Nat) : Bool := decide (S (60 * l + k) = 1) && decide (S (240 + 60 * l + k) = h + 1)
def clS (T S : Nat → Nat) (l h : Nat) : Nat → Nat → Nat
  | 0 => S
  | k + 1 => if clP S l h k = true then upS (upS (clS T S l h k) (60 * l + k) 2) (960 + 60 * l + k) (S (960 + 60 * l + k) + dsS T S l k) else clS T S l h k
def clM (T S : Nat → Nat) (l h : Nat) (n : Nat) : Nat := fb_sm (fun k => if clP S l h k = true then dsS T S l k else 0) n
section CLAIM
variable {B t c l h : Nat} {T S S2 : Nat → Nat} {M N P : Mm} {x y z u : Int32}
theorem clS_out : ∀ {n j : Nat}, (j < 60 * l ∨ 60 * l + n ≤ j) → (j < 960 + 60 * l ∨ 960 + 60 * l + n ≤ j) → clS T S l h n j = S j
  | 0, _, _, _ => rfl
  | n + 1, j, h1, h2 => by
    have ih := clS_out (n := n) (j := j) (by omega) (by omega)
    unfold clS
    split
    · rw [upS_ne (by omega), upS_ne (by omega), ih]
    · exact ih
theorem clS_c (hn6 : True) : ∀ {n i : Nat}, i < n → n ≤ 60 → l < 4 → clS T S l h n (60 * l + i) = if clP S l h i = true then 2 else S (60 * l + i)
  | 0, i, hi, _, _ => absurd hi (by omega)
  | n + 1, i, hi, hn, hl => by
    unfold clS
    by_cases e : i = n
    · subst e
      split
      · rw [upS_ne (by omega), upS_eq]
      · exact clS_out (by omega) (by omega)
    · have ih := clS_c trivial (n := n) (i := i) (by omega) (by omega) hl
      rw [← ih]
      split
      · rw [upS_ne (by omega), upS_ne (by omega)]
      · rfl
theorem clS_g : ∀ {n i : Nat}, i < n → n ≤ 60 → l < 4 → clS T S l h n (960 + 60 * l + i) = S (960 + 60 * l + i) + (if clP S l h i = true then dsS T S l i else 0)
  | 0, i, hi, _, _ => absurd hi (by omega)
  | n + 1, i, hi, hn, hl => by
    unfold clS
    by_cases e : i = n
    · subst e
      split
      · rw [upS_eq]
      · exact clS_out (by omega) (by omega)
    · have ih := clS_g (n := n) (i := i) (by omega) (by omega) hl
      rw [← ih]
      split
      · rw [upS_ne (by omega), upS_ne (by omega)]
      · rfl
theorem clS_ds {n k : Nat} (hl : l < 4) (hn : n ≤ 60) (hk : k < 60) : dsS T (clS T S l h n) l k = dsS T S l k := by
  unfold dsS
  rw [clS_out (by omega) (by omega)]
theorem ds_le (hW : TW T) (hl : l < T 0) {k : Nat} : dsS T S l k ≤ 10998 := by
  have w := hW.2.2 l hl
  unfold dsS
  split
  · rename_i h9
    have := w.2.2.2.2.2.2.2.2.2.2.2 (S (720 + 60 * l + k)) (by omega)
    omega
  · omega
theorem clM_le (hW : TW T) (hl : l < T 0) {n : Nat} (hn : n ≤ 60) : clM T S l h n ≤ 700000 := by
  refine Nat.le_trans (fb_sm_bound (c := 10998) (fun k _ => ?_)) (Nat.le_trans (Nat.mul_le_mul_right _ hn) (by omega))
  split
  · exact ds_le hW hl
  · omega
theorem w_claim_lp (hT : t + 14 ≤ B + 15 ∨ B + 25 ≤ t) (hl : l < T 0) (hh : h < T 1) (hpl : ∀ k, k < T (12 + 7 * l) → S (60 * l + k) = 1 → 1 ≤ S (720 + 60 * l + k)) : ∀ (d k n : Nat) (M : Mm), k + d = T (12 + 7 * l) → d < n → CV B t M T (clS T S l h k) → ∃ N, f_X7_claim_46 n B (nI h) (nI l) (nI (clM T S l h k)) (nI (k + 1)) M = some (nI (clM T S l h (T (12 + 7 * l))), N) ∧ CV B t N T (pyS (clS T S l h (T (12 + 7 * l))) (h + 1) (clM T S l h (T (12 + 7 * l)))) ∧ KS B M N := by
  intro d
  induction d with
  | zero =>
    intro k n M hk hn hQ
    obtain ⟨n, rfl⟩ : ∃ m, n = m + 1 := ⟨n - 1, by omega⟩
    have hk : k = T (12 + 7 * l) := by omega
    subst hk
    have w := (hQ.2.2.2.2.1.2.2 l hl).2.1
    have w0 := hQ.2.2.2.2.1.1
    have w1 := hQ.2.2.2.2.1.2.1
    have cm := clM_le (S := S) (h := h) hQ.2.2.2.2.1 hl (n := T (12 + 7 * l)) w
    obtain ⟨N, eN, n1, n2⟩ := w_pay (g := h + 1) (p := clM T S l h (T (12 + 7 * l))) hQ hT (by omega) (by omega)
    rw [pk_sub (by omega), Nat.add_sub_cancel] at eN
    have c2 := (hQ.2.2.2.2.2.1.2.2.1 l hl).1
    refine ⟨N, ?_, n1, n2⟩
    simp (disch := omega) only [f_X7_claim_46, reduceIte, ↓reduceIte, ↓ck_i, ↓nm_s, ↓bR_i, ↓bd_i, Option.isSome_some, Option.getD_some, gK, gR, gN, gIs, inb_nI, and_self, nI_clamp, fa_lit, pk_mul, nI_add, n10, n1z, n00, eq_self, not_true_eq_false, not_false_eq_true, hQ.1, hQ.2.1, hQ.2.2.1, hQ.2.2.2.1, c2, nI_ltI, Nat.lt_succ_self, eN]
  | succ d ih =>
    intro k n M hk hn hQ
    obtain ⟨n, rfl⟩ : ∃ m, n = m + 1 := ⟨n - 1, by omega⟩
    have w := (hQ.2.2.2.2.1.2.2 l hl).2.1
    have w0 := hQ.2.2.2.2.1.1
    have w1 := hQ.2.2.2.2.1.2.1
    have hk2 : ¬ T (12 + 7 * l) < k + 1 := by omega
    have c2 := (hQ.2.2.2.2.2.1.2.2.1 l hl).1
    have s3 := hQ.2.2.2.2.2.2.1.2.2.2.2 l hl k (by omega)
    have s6 := s3.1
    have s7 := s3.2.1
    clear s3
    have v3 := hQ.2.2.2.2.2.2.2.2.2.2.2 l hl k (by omega)
    rw [clS_out (by omega) (by omega)] at s6 s7
    have v4 := v3.1
    have v5 := v3.2.1
    clear v3
    rw [clS_out (by omega) (by omega)] at v4 v5
    have cm1 : clM T S l h (k + 1) = clM T S l h k + (if clP S l h k = true then dsS T S l k else 0) := fb_sm_succ _ _
    by_cases hP : clP S l h k = true
    · have hPc := hP
      unfold clP at hPc
      rw [Bool.and_eq_true, decide_eq_true_eq, decide_eq_true_eq] at hPc
      obtain ⟨p1, p2⟩ := hPc
      have ds := w_drawnSum hQ hl (k := k) (by omega) (by rw [clS_out (by omega) (by omega)]; exact hpl k (by omega) p1)
      rw [clS_ds (by omega) (by omega) (by omega)] at ds
      have hV := CV.cond (v := 2) hl (k := k) (by omega) hQ hT (hQ.2.2.2.2.2.2.2.up hQ.2.2.2.2.1 (by omega))
      have hV2 := hV.ref (j := 960 + 60 * l + k) (v := S (960 + 60 * l + k) + dsS T S l k) (by omega)
      have e1 : clS T S l h (k + 1) = upS (upS (clS T S l h k) (60 * l + k) 2) (960 + 60 * l + k) (S (960 + 60 * l + k) + dsS T S l k) := by
        rw [clS, if_pos hP]
      rw [← e1] at hV2
      obtain ⟨N, eN, n1, n2⟩ := ih (k + 1) n (sI M (B + 15 + 6) (60 * l + k) (nI 2)) (by omega) (by omega) hV2
      refine ⟨N, ?_, n1, (KS.s (by omega)).tr n2⟩
      rw [← eN, cm1, if_pos hP]
      rw [p1] at s6
      rw [p2] at s7
      simp (disch := omega) only [f_X7_claim_46, reduceIte, ↓reduceIte, ↓ck_i, ↓nm_s, ↓bR_i, ↓bd_i, Option.isSome_some, Option.getD_some, gK, gR, gN, gIs, inb_nI, and_self, nI_clamp, fa_lit, pk_mul, nI_add, n10, n1z, n00, eq_self, not_true_eq_false, not_false_eq_true, hQ.1, hQ.2.1, hQ.2.2.1, hQ.2.2.2.1, c2, nI_ltI, hk2, p_spotOf, s6, s7, pk_sub, Nat.add_sub_cancel, ds]
    · have e1 : clS T S l h (k + 1) = clS T S l h k := by rw [clS, if_neg hP]
      obtain ⟨N, eN, n1, n2⟩ := ih (k + 1) n M (by omega) (by omega) (by rw [e1]; exact hQ)
      refine ⟨N, ?_, n1, n2⟩
      have cm2 : clM T S l h (k + 1) = clM T S l h k := by rw [cm1, if_neg hP]; rfl
      rw [← eN, cm2]
      by_cases p1 : S (60 * l + k) = 1
      · have p2 : ¬ S (240 + 60 * l + k) = h + 1 := fun e => hP (by unfold clP; rw [p1, e]; simp)
        simp (disch := omega) only [f_X7_claim_46, reduceIte, ↓reduceIte, ↓ck_i, ↓nm_s, ↓bR_i, ↓bd_i, Option.isSome_some, Option.getD_some, gK, gR, gN, gIs, inb_nI, and_self, nI_clamp, fa_lit, pk_mul, nI_add, n10, n1z, n00, eq_self, not_true_eq_false, not_false_eq_true, hQ.1, hQ.2.1, hQ.2.2.1, hQ.2.2.2.1, c2, nI_ltI, hk2, p_spotOf, s6, s7, nI_eq, p1, own_eq, p2]
      · simp (disch := omega) only [f_X7_claim_46, reduceIte, ↓reduceIte, ↓ck_i, ↓nm_s, ↓bR_i, ↓bd_i, Option.isSome_some, Option.getD_some, gK, gR, gN, gIs, inb_nI, and_self, nI_clamp, fa_lit, pk_mul, nI_add, n10, n1z, n00, eq_self, not_true_eq_false, not_false_eq_true, hQ.1, hQ.2.1, hQ.2.2.1, hQ.2.2.2.1, c2, nI_ltI, hk2, p_spotOf, s6, nI_eq, p1]
theorem v_claim_lp (hl : l < T 0) (hh : h < T 1) : ∀ (d k n : Nat) (M : Mm), k + d = T (12 + 7 * l) → d < n → RV B M T (clS T S l h k) → ∃ N, f_X8_claim_44 n (B + 59) (nI h) (nI l) (nI (clM T S l h k)) (nI (k + 1)) M = some (nI (clM T S l h (T (12 + 7 * l))), N) ∧ RV B N T (upS (pyS (clS T S l h (T (12 + 7 * l))) (h + 1) (clM T S l h (T (12 + 7 * l)))) (1383 + 6 * l + 1) (S (1383 + 6 * l + 1) + clM T S l h (T (12 + 7 * l)))) ∧ KQ B M N := by
  intro d
  induction d with
  | zero =>
    intro k n M hk hn hQ
    obtain ⟨n, rfl⟩ : ∃ m, n = m + 1 := ⟨n - 1, by omega⟩
    have hk : k = T (12 + 7 * l) := by omega
    subst hk
    have w := (hQ.2.2.2.1.2.2 l hl).2.1
    have w0 := hQ.2.2.2.1.1
    have w1 := hQ.2.2.2.1.2.1
    have cm := clM_le (S := S) (h := h) hQ.2.2.2.1 hl (n := T (12 + 7 * l)) w
    obtain ⟨N, eN, n1, n2⟩ := v_pay (g := h + 1) (p := clM T S l h (T (12 + 7 * l))) hQ (by omega) (by omega)
    rw [pk_sub (by omega), Nat.add_sub_cancel] at eN
    have lo := v_loanOf hQ hl (w := 0) (by omega)
    have sp := n1.2.2.1 (1383 + 6 * l + 1) (by omega)
    rw [pyS_at (Or.inr (by omega)), clS_out (by omega) (by omega)] at sp
    refine ⟨sI N (B + 63) (1383 + 6 * l + 1) (nI (S (1383 + 6 * l + 1) + clM T S l h (T (12 + 7 * l)))), ?_, n1.s (n1.2.2.2.2.up n1.2.2.2.1 (by omega)), n2.tr KQ.s⟩
    simp (disch := omega) only [f_X8_claim_44, reduceIte, ↓reduceIte, ↓ck_i, ↓nm_s, ↓bR_i, ↓bd_i, Option.isSome_some, Option.getD_some, gK, gR, gN, gIs, inb_nI, and_self, nI_clamp, fa_lit, pk_mul, nI_add, n10, n1z, n00, eq_self, not_true_eq_false, not_false_eq_true, hQ.1, lo, Nat.add_zero, nI_ltI, Nat.lt_succ_self, eN, n1.1, sp]
  | succ d ih =>
    intro k n M hk hn hQ
    obtain ⟨n, rfl⟩ : ∃ m, n = m + 1 := ⟨n - 1, by omega⟩
    have w := (hQ.2.2.2.1.2.2 l hl).2.1
    have w0 := hQ.2.2.2.1.1
    have w1 := hQ.2.2.2.1.2.1
    have hk2 : ¬ T (12 + 7 * l) < k + 1 := by omega
    have lo := v_loanOf hQ hl (w := 0) (by omega)
    have s6 := hQ.2.2.1 (60 * l + k) (by omega)
    have s7 := hQ.2.2.1 (240 + 60 * l + k) (by omega)
    have v3 := hQ.2.2.2.2.2.2.2.2 l hl k (by omega)
    have v4 := v3.1
    have v5 := v3.2.1
    clear v3
    rw [clS_out (by omega) (by omega)] at s6 s7 v4 v5
    have a2 : 240 + (60 * l + k) = 240 + 60 * l + k := by omega
    have a9 : 960 + (60 * l + k) = 960 + 60 * l + k := by omega
    have cm1 : clM T S l h (k + 1) = clM T S l h k + (if clP S l h k = true then dsS T S l k else 0) := fb_sm_succ _ _
    by_cases hP : clP S l h k = true
    · have hPc := hP
      unfold clP at hPc
      rw [Bool.and_eq_true, decide_eq_true_eq, decide_eq_true_eq] at hPc
      obtain ⟨p1, p2⟩ := hPc
      have hV := hQ.s (j := 60 * l + k) (v := 2) (hQ.2.2.2.2.up hQ.2.2.2.1 (by omega))
      have ds1 := v_owedFor hV hl (k := k) (by omega)
      have dd1 : dsS T (upS (clS T S l h k) (60 * l + k) 2) l k = dsS T S l k := by
        unfold dsS
        rw [upS_ne (by omega), clS_out (by omega) (by omega)]
      rw [dd1] at ds1
      have s9 := hV.2.2.1 (960 + 60 * l + k) (by omega)
      rw [upS_ne (by omega), clS_out (by omega) (by omega)] at s9
      have hV2 := hV.s (j := 960 + 60 * l + k) (v := S (960 + 60 * l + k) + dsS T S l k) (hV.2.2.2.2.up hQ.2.2.2.1 (by omega))
      have ds2 := v_owedFor hV2 hl (k := k) (by omega)
      have dd2 : dsS T (upS (upS (clS T S l h k) (60 * l + k) 2) (960 + 60 * l + k) (S (960 + 60 * l + k) + dsS T S l k)) l k = dsS T S l k := by
        unfold dsS
        rw [upS_ne (by omega), upS_ne (by omega), clS_out (by omega) (by omega)]
      rw [dd2] at ds2
      have e1 : clS T S l h (k + 1) = upS (upS (clS T S l h k) (60 * l + k) 2) (960 + 60 * l + k) (S (960 + 60 * l + k) + dsS T S l k) := by
        rw [clS, if_pos hP]
      have hV3 := hV2
      rw [← e1] at hV3
      obtain ⟨N, eN, n1, n2⟩ := ih (k + 1) n (sI (sI M (B + 63) (60 * l + k) (nI 2)) (B + 63) (960 + 60 * l + k) (nI (S (960 + 60 * l + k) + dsS T S l k))) (by omega) (by omega) hV3
      refine ⟨N, ?_, n1, (KQ.s.tr KQ.s).tr n2⟩
      rw [← eN, cm1, if_pos hP]
      rw [p1] at s6
      rw [p2] at s7
      simp (disch := omega) only [f_X8_claim_44, reduceIte, ↓reduceIte, ↓ck_i, ↓nm_s, ↓bR_i, ↓bd_i, Option.isSome_some, Option.getD_some, gK, gR, gN, gIs, inb_nI, and_self, nI_clamp, fa_lit, pk_mul, nI_add, n10, n1z, n00, eq_self, not_true_eq_false, not_false_eq_true, hQ.1, hV.1, hV2.1, lo, Nat.add_zero, nI_ltI, hk2, p_bondAt, Nat.zero_add, a2, a9, s6, s7, ds1, ds2, s9]
    · have e1 : clS T S l h (k + 1) = clS T S l h k := by rw [clS, if_neg hP]
      obtain ⟨N, eN, n1, n2⟩ := ih (k + 1) n M (by omega) (by omega) (by rw [e1]; exact hQ)
      refine ⟨N, ?_, n1, n2⟩
      have cm2 : clM T S l h (k + 1) = clM T S l h k := by rw [cm1, if_neg hP]; rfl
      rw [← eN, cm2]
      by_cases p1 : S (60 * l + k) = 1
      · have p2 : ¬ S (240 + 60 * l + k) = h + 1 := fun e => hP (by unfold clP; rw [p1, e]; simp)
        simp (disch := omega) only [f_X8_claim_44, reduceIte, ↓reduceIte, ↓ck_i, ↓nm_s, ↓bR_i, ↓bd_i, Option.isSome_some, Option.getD_some, gK, gR, gN, gIs, inb_nI, and_self, nI_clamp, fa_lit, pk_mul, nI_add, n10, n1z, n00, eq_self, not_true_eq_false, not_false_eq_true, hQ.1, lo, Nat.add_zero, nI_ltI, hk2, p_bondAt, Nat.zero_add, a2, s6, s7, nI_eq, p1, p2]
      · simp (disch := omega) only [f_X8_claim_44, reduceIte, ↓reduceIte, ↓ck_i, ↓nm_s, ↓bR_i, ↓bd_i, Option.isSome_some, Option.getD_some, gK, gR, gN, gIs, inb_nI, and_self, nI_clamp, fa_lit, pk_mul, nI_add, n10, n1z, n00, eq_self, not_true_eq_false, not_false_eq_true, hQ.1, lo, Nat.add_zero, nI_ltI, hk2, p_bondAt, Nat.zero_add, s6, nI_eq, p1]
/-- what is so behind a claim -/
theorem SW.claim (hW : TW T) (hw : SW T S c) (hl : l < T 0) (hh : h < T 1) : SW T (upS (pyS (clS T S l h (T (12 + 7 * l))) (h + 1) (clM T S l h (T (12 + 7 * l)))) (1383 + 6 * l + 1) (S (1383 + 6 * l + 1) + clM T S l h (T (12 + 7 * l)))) (c + 1) := by
  have w0 := hW.1
  have w1 := hW.2.1
  have wl := (hW.2.2 l hl).2.1
  obtain ⟨h1, h2, h3, h4, h5, h6, h7⟩ := hw
  generalize hS2 : upS (pyS (clS T S l h (T (12 + 7 * l))) (h + 1) (clM T S l h (T (12 + 7 * l)))) (1383 + 6 * l + 1) (S (1383 + 6 * l + 1) + clM T S l h (T (12 + 7 * l))) = S2
  have at0 : ∀ q, (q < 60 * l ∨ 60 * l + T (12 + 7 * l) ≤ q) → (q < 960 + 60 * l ∨ 960 + 60 * l + T (12 + 7 * l) ≤ q) → q ≠ 1200 + h → q ≠ 1383 + 6 * l + 1 → S2 q = S q := fun q q1 q2 q3 q4 => by
    rw [← hS2, upS_ne q4, pyS_at (Or.inr (by omega)), clS_out q1 q2]
  have atc : ∀ k, k < T (12 + 7 * l) → S2 (60 * l + k) = if clP S l h k = true then 2 else S (60 * l + k) := fun k hk => by
    rw [← hS2, upS_ne (by omega), pyS_at (Or.inr (by omega)), clS_c trivial hk wl (by omega)]
  have atg : ∀ k, k < T (12 + 7 * l) → S2 (960 + 60 * l + k) = S (960 + 60 * l + k) + (if clP S l h k = true then dsS T S l k else 0) := fun k hk => by
    rw [← hS2, upS_ne (by omega), pyS_at (Or.inr (by omega)), clS_g hk wl (by omega)]
  have ats : S2 (1383 + 6 * l + 1) = S (1383 + 6 * l + 1) + clM T S l h (T (12 + 7 * l)) := by rw [← hS2, upS_eq]
  have ath : ∀ q, q < T 1 → S2 (1200 + q) ≤ 1000000000 := fun q hq => by
    rw [← hS2, upS_ne (by omega)]
    refine pyS_le ?_
    rw [clS_out (by omega) (by omega)]
    exact h2 q hq
  clear hS2
  have a6 : S2 1206 = S 1206 := at0 _ (by omega) (by omega) (by omega) (by omega)
  have apr : ∀ l', l' < T 0 → ∀ y, 1 ≤ y → y ≤ T (12 + 7 * l' + 3) → prS T S2 l' y = prS T S l' y := fun l' hl' y y1 y2 => by
    have w := (hW.2.2 l' hl').2.2.2.2.2.2.1
    exact prS_cong (at0 _ (by omega) (by omega) (by omega) (by omega))
  have a3 : ∀ l', l' < T 0 → ∀ k, k < T (12 + 7 * l') → S2 (240 + 60 * l' + k) = S (240 + 60 * l' + k) ∧ S2 (480 + 60 * l' + k) = S (480 + 60 * l' + k) ∧ S2 (720 + 60 * l' + k) = S (720 + 60 * l' + k) := fun l' hl' k hk => by
    have w := (hW.2.2 l' hl').2.1
    exact ⟨at0 _ (by omega) (by omega) (by omega) (by omega), at0 _ (by omega) (by omega) (by omega) (by omega), at0 _ (by omega) (by omega) (by omega) (by omega)⟩
  have hoth : ∀ l', l' < T 0 → l' ≠ l → ∀ k, k < T (12 + 7 * l') → S2 (60 * l' + k) = S (60 * l' + k) ∧ S2 (960 + 60 * l' + k) = S (960 + 60 * l' + k) := fun l' hl' hne k hk => by
    have w := (hW.2.2 l' hl').2.1
    exact ⟨at0 _ (by omega) (by omega) (by omega) (by omega), at0 _ (by omega) (by omega) (by omega) (by omega)⟩
  have hds : ∀ l', l' < T 0 → ∀ k, k < T (12 + 7 * l') → dsS T S2 l' k = dsS T S l' k := fun l' hl' k hk => by
    unfold dsS
    rw [(a3 l' hl' k hk).2.2]
  have hPc : ∀ k, clP S l h k = true → S (60 * l + k) = 1 := fun k hp => by
    unfold clP at hp
    rw [Bool.and_eq_true, decide_eq_true_eq] at hp
    exact hp.1
  have hsh0 : ∀ l', l' < T 0 → ∀ k, k < T (12 + 7 * l') → S2 (60 * l' + k) = S (60 * l' + k) → ∀ w, shS T S2 l' k w = shS T S l' k w := fun l' hl' k hk e w => by
    have q := h5 l' hl' k hk
    refine sh_cong a6 e (a3 l' hl' k hk).2.1 (a3 l' hl' k hk).2.2 (fun e3 => ?_)
    have wy := (hW.2.2 l' hl').2.2.2.2.2.2.1
    have q5 := q.2.2.2.2.1
    exact at0 _ (by omega) (by omega) (by omega) (by omega)
  have hsh : ∀ l', l' < T 0 → ∀ k, k < T (12 + 7 * l') → ∀ w, w ≠ 4 → shS T S2 l' k w = shS T S l' k w + (if l' = l ∧ w = 1 ∧ clP S l h k = true then dsS T S l k else 0) := fun l' hl' k hk w hw4 => by
    by_cases e : l' = l
    · subst e
      have ac := atc k hk
      by_cases hp : clP S l' h k = true
      · rw [if_pos hp] at ac
        have hs1 := hPc k hp
        have hd := hds l' hl' k hk
        have hr := (a3 l' hl' k hk).2.1
        match w, hw4 with
        | 0, _ => rw [if_neg (by omega)]; show T _ * (if S2 (60 * l' + k) = 0 then _ else _) = T _ * (if S (60 * l' + k) = 0 then _ else _) + 0; rw [ac, hs1, hr, if_neg (by decide), if_neg (by decide)]; rfl
        | 1, _ => rw [if_pos ⟨rfl, rfl, hp⟩]; show (if S2 (60 * l' + k) = 2 then _ else _) = (if S (60 * l' + k) = 2 then _ else _) + _; rw [ac, hs1, if_pos rfl, if_neg (by decide), Nat.zero_add, hd]
        | 2, _ => rw [if_neg (by omega)]; show (if S2 (60 * l' + k) = 3 then _ else _) = (if S (60 * l' + k) = 3 then _ else _) + 0; rw [ac, hs1, if_neg (by decide), if_neg (by decide)]
        | 3, _ => rw [if_neg (by omega)]; show (if S2 (60 * l' + k) = 4 then _ else _) = (if S (60 * l' + k) = 4 then _ else _) + 0; rw [ac, hs1, if_neg (by decide), if_neg (by decide)]
        | n + 5, _ => rw [if_neg (by omega)]; show (if S2 (60 * l' + k) = 3 then _ else _) = (if S (60 * l' + k) = 3 then _ else _) + 0; rw [ac, hs1, if_neg (by decide), if_neg (by decide)]
      · rw [if_neg hp] at ac
        rw [if_neg (fun q => hp q.2.2), Nat.add_zero]
        exact hsh0 l' hl' k hk ac w
    · rw [if_neg (fun q => e q.1), Nat.add_zero]
      exact hsh0 l' hl' k hk (hoth l' hl' e k hk).1 w
  refine ⟨by rw [a6]; exact h1, ath, fun l' hl' => ?_, fun l' hl' y y1 y2 => ?_, fun l' hl' k hk => ?_, fun l' hl' w hw hw4 => ?_, fun l' hl' h0 hy => ?_⟩
  · have := h3 l' hl'
    rw [at0 _ (by omega) (by omega) (by omega) (by omega), at0 _ (by omega) (by omega) (by omega) (by omega)]
    omega
  · have w := (hW.2.2 l' hl').2.2.2.2.2.2.1
    rw [a6, at0 _ (by omega) (by omega) (by omega) (by omega), at0 _ (by omega) (by omega) (by omega) (by omega)]
    exact h4 l' hl' y y1 y2
  · have r := h5 l' hl' k hk
    have q3 := a3 l' hl' k hk
    have e0 := hsh l' hl' k hk 0 (by omega)
    have e1 := hsh l' hl' k hk 1 (by omega)
    have e2 := hsh l' hl' k hk 2 (by omega)
    rw [if_neg (by omega), Nat.add_zero] at e0 e2
    have hz : (S2 (60 * l' + k) = 0 ↔ S (60 * l' + k) = 0) ∧ (S2 (60 * l' + k) = 3 ↔ S (60 * l' + k) = 3) ∧ S2 (60 * l' + k) ≤ 4 := by
      by_cases e : l' = l
      · subst e
        have ac := atc k hk
        by_cases hp : clP S l' h k = true
        · rw [if_pos hp] at ac
          have hs1 := hPc k hp
          rw [ac, hs1]
          refine ⟨by omega, by omega, by omega⟩
        · rw [if_neg hp] at ac
          rw [ac]
          exact ⟨Iff.rfl, Iff.rfl, r.1⟩
      · rw [(hoth l' hl' e k hk).1]
        exact ⟨Iff.rfl, Iff.rfl, r.1⟩
    obtain ⟨z1, z2, z3⟩ := hz
    have q5 := r.2.2.2.2.1
    rw [a6, q3.1, q3.2.1, q3.2.2, e0, e1, e2]
    refine ⟨z3, r.2.1, z1.trans r.2.2.1, r.2.2.2.1, q5, fun q => r.2.2.2.2.2.1 (z1.mp q), fun q => r.2.2.2.2.2.2.1 (fun q2 => q (z1.mpr q2)), fun q => fun q2 => r.2.2.2.2.2.2.2.1 q (z1.mp q2), fun q => ?_, ?_⟩
    · have e3 := z2.mp q
      rw [apr l' hl' _ (Nat.pos_of_ne_zero (fun q0 => by have := r.2.2.1.mpr q0; omega)) q5]
      exact r.2.2.2.2.2.2.2.2.1 e3
    · by_cases e : l' = l
      · subst e
        rw [atg k hk, r.2.2.2.2.2.2.2.2.2]
        by_cases hp : clP S l' h k = true
        · rw [if_pos hp, if_pos ⟨rfl, rfl, hp⟩]; omega
        · rw [if_neg hp, if_neg (fun q => hp q.2.2)]; omega
      · rw [if_neg (fun q => e q.1), (hoth l' hl' e k hk).2, r.2.2.2.2.2.2.2.2.2, Nat.add_zero]
  · have hs := h6 l' hl' w hw hw4
    have cg : fb_sm (fun k => shS T S2 l' k w) (T (12 + 7 * l')) = fb_sm (fun k => shS T S l' k w + (if l' = l ∧ w = 1 ∧ clP S l h k = true then dsS T S l k else 0)) (T (12 + 7 * l')) := fb_sm_cong (fun k hk => hsh l' hl' k hk w hw4)
    rw [cg, fb_sm_add]
    by_cases e : l' = l ∧ w = 1
    · obtain ⟨rfl, rfl⟩ := e
      rw [ats, hs]
      unfold clM
      refine congrArg _ (fb_sm_cong (fun k hk => ?_))
      by_cases hp : clP S l' h k = true
      · rw [if_pos hp, if_pos ⟨rfl, rfl, hp⟩]
      · rw [if_neg hp, if_neg (fun q => hp q.2.2)]
    · have z : fb_sm (fun k => if l' = l ∧ w = 1 ∧ clP S l h k = true then dsS T S l k else 0) (T (12 + 7 * l')) = 0 := by
        rw [fb_sm_cong (g := fun _ => 0) (fun k hk => if_neg (fun q => e ⟨q.1, q.2.1⟩)), fb_sm_const]; rfl
      rw [z, Nat.add_zero, at0 _ (by omega) (by omega) (by omega) (by omega), hs]
  · rw [a6] at hy ⊢
    have : ctS T S2 l' 0 = ctS T S l' 0 := by
      refine fb_ct_cong (fun k hk => ?_)
      by_cases e : l' = l
      · subst e
        have ac := atc k hk
        by_cases hp : clP S l' h k = true
        · rw [if_pos hp] at ac
          rw [ac, hPc k hp]; rfl
        · rw [if_neg hp] at ac
          rw [ac]
      · rw [(hoth l' hl' e k hk).1]
    rw [this]
    exact h7 l' hl' h0 hy
theorem q_held (hR : RQ B M T S c) (hl : l < T 0) (hh : h < T 1) {st : Nat} (hst : st ≤ 4) : f_X8_held (B + 59) (nI h) (nI l) (nI st) M = some (nI (fb_ct (fun k => decide (S (60 * l + k) = st) && decide (S (240 + 60 * l + k) = h + 1)) (T (12 + 7 * l))), sI M (B + 59) 0 (nI 0)) := by
  have w := (hR.2.2.2.1.2.2 l hl).2.1
  have w1 := hR.2.2.2.1.2.1
  have w0 := hR.2.2.2.1.1
  have hR' := hR.th (j := 0) (v := nI 0)
  have q := q_held_lp hR' hl (st := st) (h := h) (by omega) (by omega) (T (12 + 7 * l)) 0 FU (by omega) (by unfold FU; omega)
  rw [show fb_ct (fun k => decide (S (60 * l + k) = st) && decide (S (240 + 60 * l + k) = h + 1)) 0 = 0 from rfl, Nat.zero_add] at q
  simp (disch := omega) only [f_X8_held, reduceIte, ↓reduceIte, ↓ck_i, ↓nm_s, ↓bR_i, ↓bd_i, Option.isSome_some, Option.getD_some, gK, gR, gN, gIs, inb_nI, and_self, nI_clamp, fa_lit, pk_mul, nI_add, n10, n1z, n00, eq_self, not_true_eq_false, not_false_eq_true, hR.1, hR'.1, q_isHolder_y hR' hh, q_isLoan_y hR' hl, fa_litL, wi_y (n := 4), q]
theorem pr_claim (hcc : c + 1 ≤ 600) : Pr B c (f_X7_claim B x y) (f_X8_claim (B + 59) x y) := by
  refine pr_d hcc (fun N => sI (sI N (B + 59) 0 (nI 0)) (B + 59) 0 (nI 0)) (fun N => ⟨rfl, fun a ha => by rw [sI_ne ha, sI_ne ha], fun j hj => by rw [sI_oth hj, sI_oth hj]⟩) (fun M t T S hQ hR ht => ?_)
  have w0 := hR.2.2.2.1.1
  have w1 := hR.2.2.2.1.2.1
  have hR2 := hR.th (j := 0) (v := nI 0)
  rcases ixL x (n := T 1) (by omega) with h | ⟨h, hh, rfl⟩
  · exact Or.inl ⟨-nI 1, sI M (B + 59) 0 (nI 0), by simp (disch := omega) only [f_X7_claim, reduceIte, ↓reduceIte, ↓ck_i, ↓nm_s, ↓bR_i, ↓bd_i, Option.isSome_some, Option.getD_some, gK, gR, gN, gIs, inb_nI, and_self, nI_clamp, fa_lit, pk_mul, nI_add, n10, n1z, n00, eq_self, not_true_eq_false, not_false_eq_true, hQ.1, p_isHolder_n hQ h], by simp (disch := omega) only [f_X8_claim, reduceIte, ↓reduceIte, ↓ck_i, ↓nm_s, ↓bR_i, ↓bd_i, Option.isSome_some, Option.getD_some, gK, gR, gN, gIs, inb_nI, and_self, nI_clamp, fa_lit, pk_mul, nI_add, n10, n1z, n00, eq_self, not_true_eq_false, not_false_eq_true, hR.1, hR2.1, q_isHolder_n hR2 h], KR.th (by omega) (by omega), rfl⟩
  have ph := p_isHolder_y hQ hh
  have qh := q_isHolder_y hR2 hh
  rcases ixL y (n := T 0) (by omega) with h | ⟨l, hl, rfl⟩
  · exact Or.inl ⟨-nI 1, sI M (B + 59) 0 (nI 0), by simp (disch := omega) only [f_X7_claim, reduceIte, ↓reduceIte, ↓ck_i, ↓nm_s, ↓bR_i, ↓bd_i, Option.isSome_some, Option.getD_some, gK, gR, gN, gIs, inb_nI, and_self, nI_clamp, fa_lit, pk_mul, nI_add, n10, n1z, n00, eq_self, not_true_eq_false, not_false_eq_true, hQ.1, ph, p_isLoan_n hQ h], by simp (disch := omega) only [f_X8_claim, reduceIte, ↓reduceIte, ↓ck_i, ↓nm_s, ↓bR_i, ↓bd_i, Option.isSome_some, Option.getD_some, gK, gR, gN, gIs, inb_nI, and_self, nI_clamp, fa_lit, pk_mul, nI_add, n10, n1z, n00, eq_self, not_true_eq_false, not_false_eq_true, hR.1, hR2.1, qh, q_isLoan_n hR2 h], KR.th (by omega) (by omega), rfl⟩
  have pl := p_isLoan_y hQ hl
  have ql := q_isLoan_y hR2 hl
  have wl := (hR.2.2.2.1.2.2 l hl).2.1
  have pc := p_countHeld hQ hl (st := 1) (h := h) (by omega) (by omega)
  have qc := q_held hR2 hl hh (st := 1) (by omega)
  have cle := fb_ct_le (fun k => decide (S (60 * l + k) = 1) && decide (S (240 + 60 * l + k) = h + 1)) (T (12 + 7 * l))
  generalize hct : fb_ct (fun k => decide (S (60 * l + k) = 1) && decide (S (240 + 60 * l + k) = h + 1)) (T (12 + 7 * l)) = ct at *
  by_cases h0 : ct = 0
  · subst h0
    exact Or.inl ⟨nI 0, sI (sI M (B + 59) 0 (nI 0)) (B + 59) 0 (nI 0), by simp (disch := omega) only [f_X7_claim, reduceIte, ↓reduceIte, ↓ck_i, ↓nm_s, ↓bR_i, ↓bd_i, Option.isSome_some, Option.getD_some, gK, gR, gN, gIs, inb_nI, and_self, nI_clamp, fa_lit, pk_mul, nI_add, n10, n1z, n00, eq_self, not_true_eq_false, not_false_eq_true, hQ.1, hQ.2.1, hQ.2.2.2.1, ph, pl, pc], by simp (disch := omega) only [f_X8_claim, reduceIte, ↓reduceIte, ↓ck_i, ↓nm_s, ↓bR_i, ↓bd_i, Option.isSome_some, Option.getD_some, gK, gR, gN, gIs, inb_nI, and_self, nI_clamp, fa_lit, pk_mul, nI_add, n10, n1z, n00, eq_self, not_true_eq_false, not_false_eq_true, hR.1, hR2.1, qh, ql, qc], (KR.th (by omega) (by omega)).tr (KR.th (by omega) (by omega)), rfl⟩
  · refine Or.inr ⟨nI (clM T S l h (T (12 + 7 * l))), _, SW.claim hR.2.2.2.1 hR.2.2.2.2.1 hl hh, fun N1 eN1 hQ1 => ?_, fun N P1 hRN eP1 hRP => ?_⟩
    · obtain ⟨N, eN, n1, n2⟩ := w_claim_lp (S := S) (h := h) ht.2.2 hl hh (fun k hk e => ((hR.2.2.2.2.1.2.2.2.2.1 l hl k hk).2.2.2.2.2.2.1 (by omega)).1) (T (12 + 7 * l)) 0 FU N1 (by omega) (by unfold FU; omega) hQ1.v
      refine ⟨N, ?_, n2.1, fun b q1 _ => n2.2 b q1, (n1.ref (j := 1383 + 6 * l + 1) (by omega)).2.2.2.2.2.2.1⟩
      have e0 : clM T S l h 0 = 0 := rfl
      rw [e0] at eN
      simp (disch := omega) only [f_X7_claim, reduceIte, ↓reduceIte, ↓ck_i, ↓nm_s, ↓bR_i, ↓bd_i, Option.isSome_some, Option.getD_some, gK, gR, gN, gIs, inb_nI, and_self, nI_clamp, fa_lit, pk_mul, nI_add, n10, n1z, n00, eq_self, not_true_eq_false, not_false_eq_true, hQ.1, hQ.2.1, hQ.2.2.2.1, ph, pl, pc, nI_eq, h0, eN1, eN]
    · have hR3 := hRN.th (j := 0) (v := nI 0)
      have hR4 := hR3.th (j := 0) (v := nI 0)
      obtain ⟨P, eP, p1, p2⟩ := v_claim_lp (B := B) (S := S) (h := h) hl hh (T (12 + 7 * l)) 0 FU P1 (by omega) (by unfold FU; omega) hRP.v
      have qc3 := q_held hR3 hl hh (st := 1) (by omega)
      rw [hct] at qc3
      refine ⟨P, ?_, p2.1, fun b _ q2 _ _ => p2.2 b q2, ⟨by rw [p2.2 _ (by omega)], by rw [p2.2 _ (by omega)]⟩, p1.2.2.1⟩
      have e0 : clM T S l h 0 = 0 := rfl
      rw [e0] at eP
      simp (disch := omega) only [f_X8_claim, reduceIte, ↓reduceIte, ↓ck_i, ↓nm_s, ↓bR_i, ↓bd_i, Option.isSome_some, Option.getD_some, gK, gR, gN, gIs, inb_nI, and_self, nI_clamp, fa_lit, pk_mul, nI_add, n10, n1z, n00, eq_self, not_true_eq_false, not_false_eq_true, hRN.1, hR3.1, hR4.1, q_isHolder_y hR3 hh, q_isLoan_y hR3 hl, qc3, nI_eq, h0, eP1, eP]
end CLAIM
