section ASK6
variable {B t c l : Nat} {T S : Nat → Nat} {M N : Mm} {x y z u : Int32}
theorem RR.yr {oy op m : Nat} {y : Nat} (h : RR B M T S l oy op m) (h1 : S 1206 < y) (h2 : y ≤ T (12 + 7 * l + 3)) : M.1 (B + 47) y = nI (vS T S l oy op m y) ∧ M.1 (B + 48) y = nI (vS T S l oy op m y * T (12 + 7 * l + 2)) ∧ M.1 (B + 49) y = nI (vD T S l oy op m y) ∧ M.1 (B + 50) y = nI (csR T l (pA T S l oy op y) y) ∧ M.1 (B + 51) y = nI (bgR T l (pA T S l oy op y) y) := by
  obtain ⟨a0, a1, a2, a3, a4, a5⟩ := h y h1 h2
  exact ⟨a0, a1, a2, a3, a4⟩
theorem QR.yr {oy op m : Nat} {y : Nat} (h : QR B M T S l oy op m) (h1 : S 1206 < y) (h2 : y ≤ T (12 + 7 * l + 3)) : M.1 (B + 68) (6 * y) = nI (vS T S l oy op m y) ∧ M.1 (B + 68) (6 * y + 1) = nI (vS T S l oy op m y * T (12 + 7 * l + 2)) ∧ M.1 (B + 68) (6 * y + 2) = nI (vD T S l oy op m y) ∧ M.1 (B + 68) (6 * y + 3) = nI (csR T l (pA T S l oy op y) y) ∧ M.1 (B + 68) (6 * y + 4) = nI (bgR T l (pA T S l oy op y) y) := by
  obtain ⟨a0, a1, a2, a3, a4, a5⟩ := h y h1 h2
  exact ⟨a0, a1, a2, a3, a4⟩
/-- what a loan pays in a year to come -/
def vP (T S : Nat → Nat) (l y : Nat) : Nat := pyV T l (vS T S l 0 0 0 y) (vD T S l 0 0 0 y) (csR T l (pA T S l 0 0 y) y) (bgR T l (pA T S l 0 0 y) y)
theorem bgR_le {p y : Nat} : bgR T l p y ≤ 1 := by unfold bgR; split <;> omega
theorem p_vP (hQ : CQ B t M T S c) (hl : l < T 0) (hO : RO B M T S l) (hA : RR B M T S l 0 0 0) {y : Nat} (h1 : S 1206 < y) (h2 : y ≤ T (12 + 7 * l + 3)) : f_X4_payment (B + 44) (nI y) M = some (nI (vP T S l y), M) := by
  have hW := hQ.2.2.2.2.1
  have hw := hQ.2.2.2.2.2.2.2.1
  have w := (hW.2.2 l hl).2.2.2.2.2.2.1
  obtain ⟨a0, a1, a2, a3, a4⟩ := hA.yr h1 h2
  have v := vD_le (oy := 0) (op := 0) hW hw hQ.2.2.2.2.2.2.2.2 hl (m := 0) (by omega) h1 h2
  have pa := pA_rng (oy := 0) (op := 0) hW hw hl (Or.inl rfl) (y := y) (by omega) h2
  exact p_payment hQ.1 hW hl hO (by omega) v.2 (Nat.le_trans v.1 v.2) (csR_rng hW hl pa.2.1 pa.2.2).2 bgR_le a1 a2 a3 a4
theorem q_vP (hR : RQ B M T S c) (hl : l < T 0) (hA : QR B M T S l 0 0 0) {y : Nat} (h1 : S 1206 < y) (h2 : y ≤ T (12 + 7 * l + 3)) : f_X8_paidIn (B + 59) (nI l) (nI y) M = some (lN (vP T S l y), M) := by
  have hW := hR.2.2.2.1
  have hw := hR.2.2.2.2.1
  have w := (hW.2.2 l hl).2.2.2.2.2.2.1
  obtain ⟨a0, a1, a2, a3, a4⟩ := hA.yr h1 h2
  have v := vD_le (oy := 0) (op := 0) hW hw hR.2.2.2.2.2 hl (m := 0) (by omega) h1 h2
  have pa := pA_rng (oy := 0) (op := 0) hW hw hl (Or.inl rfl) (y := y) (by omega) h2
  exact q_paidIn hR hl (by omega) v.2 (Nat.le_trans v.1 v.2) (csR_rng hW hl pa.2.1 pa.2.2).2 bgR_le a1 a2 a3 a4
theorem vP_le (hW : TW T) (hw : SW T S c) (hc : c ≤ 600) (hl : l < T 0) {y : Nat} (h1 : S 1206 < y) (h2 : y ≤ T (12 + 7 * l + 3)) : vP T S l y ≤ 160000 := by
  have v := vD_le (oy := 0) (op := 0) hW hw hc hl (m := 0) (by omega) h1 h2
  have pa := pA_rng (oy := 0) (op := 0) hW hw hl (Or.inl rfl) (y := y) (by omega) h2
  have cs := (csR_rng (y := y) hW hl pa.2.1 pa.2.2).2
  have w := (hW.2.2 l hl).2.2.2.2.1
  have m1 : vS T S l 0 0 0 y * T (12 + 7 * l + 2) ≤ 60 * 99 := Nat.mul_le_mul v.2 w
  have m2 : vD T S l 0 0 0 y * csR T l (pA T S l 0 0 y) y ≤ 60 * 999 := Nat.mul_le_mul (Nat.le_trans v.1 v.2) cs
  have m3 := pz_le hW hl (n := min 9 (vD T S l 0 0 0 y)) (by omega)
  unfold vP pyV
  split <;> omega
theorem p_toPay_lp (hQ : CQ B t M T S c) (hl : l < T 0) (hO : RO B M T S l) (hA : RR B M T S l 0 0 0) : ∀ (d i n : Nat), d = T (12 + 7 * l + 3) + 1 - (S 1206 + 1 + i) → i < 30 → d < n → f_X7_toPay_39 n B (lN (fb_sm (fun i => vP T S l (S 1206 + 1 + i)) i)) (nI (S 1206 + 1 + i)) M = some (lN (fb_sm (fun i => vP T S l (S 1206 + 1 + i)) (i + d)), M) := by
  have hW := hQ.2.2.2.2.1
  have hw := hQ.2.2.2.2.2.2.2.1
  have w := (hW.2.2 l hl).2.2.2.2.2.2.1
  have y60 := hw.1
  intro d
  induction d with
  | zero =>
    intro i n hd hi hn
    obtain ⟨n, rfl⟩ : ∃ m, n = m + 1 := ⟨n - 1, by omega⟩
    have e : T (12 + 7 * l + 3) < S 1206 + 1 + i := by omega
    simp (disch := omega) only [f_X7_toPay_39, reduceIte, ↓reduceIte, ↓ck_i, ↓nm_s, ↓bR_i, ↓bd_i, Option.isSome_some, Option.getD_some, gK, gR, gN, gIs, inb_nI, and_self, nI_clamp, fa_lit, pk_mul, nI_add, n10, n1z, n00, eq_self, not_true_eq_false, not_false_eq_true, hQ.1, hO.1, nI_ltI, e, Nat.add_zero]
  | succ d ih =>
    intro i n hd hi hn
    obtain ⟨n, rfl⟩ : ∃ m, n = m + 1 := ⟨n - 1, by omega⟩
    have ih := ih (i + 1) n (by omega) (by omega) (by omega)
    have e : ¬ T (12 + 7 * l + 3) < S 1206 + 1 + i := by omega
    have pv := p_vP hQ hl hO hA (y := S 1206 + 1 + i) (by omega) (by omega)
    have pl := vP_le hW hw hQ.2.2.2.2.2.2.2.2 hl (y := S 1206 + 1 + i) (by omega) (by omega)
    rw [fb_sm_succ, show i + 1 + d = i + (d + 1) by omega, show S 1206 + 1 + (i + 1) = S 1206 + 1 + i + 1 by omega] at ih
    rw [← ih]
    simp (disch := omega) only [f_X7_toPay_39, reduceIte, ↓reduceIte, ↓ck_i, ↓nm_s, ↓bR_i, ↓bd_i, Option.isSome_some, Option.getD_some, gK, gR, gN, gIs, inb_nI, and_self, nI_clamp, fa_lit, pk_mul, nI_add, n10, n1z, n00, eq_self, not_true_eq_false, not_false_eq_true, hQ.1, hO.1, nI_ltI, e, pv, nI_l, lN_add]
theorem q_toPay_lp (hR : RQ B M T S c) (hl : l < T 0) (hA : QR B M T S l 0 0 0) : ∀ (d i n : Nat), d = T (12 + 7 * l + 3) + 1 - (S 1206 + 1 + i) → i < 30 → d < n → f_X8_toPay_36 n (B + 59) (nI l) (lN (fb_sm (fun i => vP T S l (S 1206 + 1 + i)) i)) (nI (S 1206 + 1 + i)) M = some (lN (fb_sm (fun i => vP T S l (S 1206 + 1 + i)) (i + d)), M) := by
  have hW := hR.2.2.2.1
  have hw := hR.2.2.2.2.1
  have w := (hW.2.2 l hl).2.2.2.2.2.2.1
  have y60 := hw.1
  have l3 := q_loanOf hR hl (w := 3) (by omega)
  intro d
  induction d with
  | zero =>
    intro i n hd hi hn
    obtain ⟨n, rfl⟩ : ∃ m, n = m + 1 := ⟨n - 1, by omega⟩
    have e : T (12 + 7 * l + 3) < S 1206 + 1 + i := by omega
    simp (disch := omega) only [f_X8_toPay_36, reduceIte, ↓reduceIte, ↓ck_i, ↓nm_s, ↓bR_i, ↓bd_i, Option.isSome_some, Option.getD_some, gK, gR, gN, gIs, inb_nI, and_self, nI_clamp, fa_lit, pk_mul, nI_add, n10, n1z, n00, eq_self, not_true_eq_false, not_false_eq_true, hR.1, l3, nI_ltI, e, Nat.add_zero]
  | succ d ih =>
    intro i n hd hi hn
    obtain ⟨n, rfl⟩ : ∃ m, n = m + 1 := ⟨n - 1, by omega⟩
    have ih := ih (i + 1) n (by omega) (by omega) (by omega)
    have e : ¬ T (12 + 7 * l + 3) < S 1206 + 1 + i := by omega
    have pv := q_vP hR hl hA (y := S 1206 + 1 + i) (by omega) (by omega)
    rw [fb_sm_succ, show i + 1 + d = i + (d + 1) by omega, show S 1206 + 1 + (i + 1) = S 1206 + 1 + i + 1 by omega] at ih
    rw [← ih]
    simp (disch := omega) only [f_X8_toPay_36, reduceIte, ↓reduceIte, ↓ck_i, ↓nm_s, ↓bR_i, ↓bd_i, Option.isSome_some, Option.getD_some, gK, gR, gN, gIs, inb_nI, and_self, nI_clamp, fa_lit, pk_mul, nI_add, n10, n1z, n00, eq_self, not_true_eq_false, not_false_eq_true, hR.1, l3, nI_ltI, e, pv, nI_l, lN_add]
theorem pr_toPay (hcc : c + 1 ≤ 600) : Pr B c (f_X7_toPay B x) (f_X8_toPay (B + 59) x) := by
  refine pr_q hcc (fun M t T S hQ hR ht => ?_)
  have w0 := hR.2.2.2.1.1
  have y60 := hR.2.2.2.2.1.1
  rcases ixL x (n := T 0) (by omega) with h | ⟨l, hl, rfl⟩
  · exact ⟨-1, M, by simp (disch := omega) only [f_X7_toPay, reduceIte, ↓reduceIte, ↓ck_i, ↓nm_s, ↓bR_i, ↓bd_i, Option.isSome_some, Option.getD_some, gK, gR, gN, gIs, inb_nI, and_self, nI_clamp, fa_lit, pk_mul, nI_add, n10, n1z, n00, eq_self, not_true_eq_false, not_false_eq_true, hQ.1, p_isLoan_n hQ h], KC.rf, fun _ hR2 hb => ⟨sI M (B + 59) 0 (nI 0), by simp (disch := omega) only [f_X8_toPay, reduceIte, ↓reduceIte, ↓ck_i, ↓nm_s, ↓bR_i, ↓bd_i, Option.isSome_some, Option.getD_some, gK, gR, gN, gIs, inb_nI, and_self, nI_clamp, fa_lit, pk_mul, nI_add, n10, n1z, n00, eq_self, not_true_eq_false, not_false_eq_true, hR.1, hR2.1, q_isLoan_n hR2 h], KR.th (by omega) (by omega), hb⟩⟩
  have w := (hR.2.2.2.1.2.2 l hl).2.2.2.2.2.2.1
  obtain ⟨N, eN, n1, n2, n3⟩ := p_foresee hQ ht hl
  have hQN := n1.cq hQ ht
  have lp := p_toPay_lp hQN hl n2 n3 (T (12 + 7 * l + 3) + 1 - (S 1206 + 1)) 0 FU rfl (by omega) (by unfold FU; omega)
  have e1 : f_X7_toPay B (nI l) M = some (lN (fb_sm (fun i => vP T S l (S 1206 + 1 + i)) (0 + (T (12 + 7 * l + 3) + 1 - (S 1206 + 1)))), N) := by
    rw [← lp]
    simp (disch := omega) only [f_X7_toPay, reduceIte, ↓reduceIte, ↓ck_i, ↓nm_s, ↓bR_i, ↓bd_i, Option.isSome_some, Option.getD_some, gK, gR, gN, gIs, inb_nI, and_self, nI_clamp, fa_lit, pk_mul, nI_add, n10, n1z, n00, eq_self, not_true_eq_false, not_false_eq_true, hQ.1, hQ.2.1, hQN.1, p_isLoan_y hQ hl, eN, n2.1, fa_litL, fb_sm, Nat.add_zero]
  refine ⟨_, _, e1, n1.c, fun hRN hR2 hb => ?_⟩
  obtain ⟨P, eP, p1, p2⟩ := q_tells0 hR2 hl
  have hRP := p1.rq hR2
  have lq := q_toPay_lp hRP hl p2 (T (12 + 7 * l + 3) + 1 - (S 1206 + 1)) 0 FU rfl (by omega) (by unfold FU; omega)
  have a2 := hRP.2.2.1 1206 (by omega)
  refine ⟨P, ?_, (KR.th (by omega) (by omega)).tr p1.r, by rw [p1.1, sI_r, n1.1]; exact hb⟩
  rw [← lq]
  simp (disch := omega) only [f_X8_toPay, reduceIte, ↓reduceIte, ↓ck_i, ↓nm_s, ↓bR_i, ↓bd_i, Option.isSome_some, Option.getD_some, gK, gR, gN, gIs, inb_nI, and_self, nI_clamp, fa_lit, pk_mul, nI_add, n10, n1z, n00, eq_self, not_true_eq_false, not_false_eq_true, hRN.1, hR2.1, hRP.1, q_isLoan_y hR2 hl, eP, a2, fa_litL, fb_sm, Nat.add_zero]
theorem p_life_lp (hQ : CQ B t M T S c) (hl : l < T 0) (hO : RO B M T S l) (hA : RR B M T S l 0 0 0) {R : Option (Int64 × Mm)} : ∀ (d i n : Nat), d = T (12 + 7 * l + 3) + 1 - (S 1206 + 1 + i) → i < 30 → d < n → f_X7_tell B (lN (fb_sm (fun i => (i + 1) * vD T S l 0 0 0 (S 1206 + 1 + i)) (i + d))) (lN (ctS T S l 0)) M = R → R.isSome = true → f_X7_life_23 n B (lN (fb_sm (fun i => (i + 1) * vD T S l 0 0 0 (S 1206 + 1 + i)) i)) (nI (S 1206 + 1 + i)) M = R := by
  have hW := hQ.2.2.2.2.1
  have hw := hQ.2.2.2.2.2.2.2.1
  have w := (hW.2.2 l hl).2.2.2.2.2.2.1
  have y60 := hw.1
  have cx : ctS T S l 0 ≤ 60 := Nat.le_trans (fb_ct_le _ _) (hW.2.2 l hl).2.1
  intro d
  induction d with
  | zero =>
    intro i n hd hi hn hR hs
    obtain ⟨n, rfl⟩ : ∃ m, n = m + 1 := ⟨n - 1, by omega⟩
    have e : T (12 + 7 * l + 3) < S 1206 + 1 + i := by omega
    change f_X7_tell B (lN (fb_sm (fun i => (i + 1) * vD T S l 0 0 0 (S 1206 + 1 + i)) i)) (lN (ctS T S l 0)) M = R at hR
    obtain ⟨r, rfl⟩ := Option.isSome_iff_exists.mp hs
    simp (disch := omega) only [f_X7_life_23, reduceIte, ↓reduceIte, ↓ck_i, ↓nm_s, ↓bR_i, ↓bd_i, Option.isSome_some, Option.getD_some, gK, gR, gN, gIs, inb_nI, and_self, nI_clamp, fa_lit, pk_mul, nI_add, n10, n1z, n00, eq_self, not_true_eq_false, not_false_eq_true, hQ.1, hO.1, nI_ltI, e, nI_l]
    rw [hR]
    rfl
  | succ d ih =>
    intro i n hd hi hn hR hs
    obtain ⟨n, rfl⟩ : ∃ m, n = m + 1 := ⟨n - 1, by omega⟩
    rw [show i + (d + 1) = i + 1 + d by omega] at hR
    have ih := ih (i + 1) n (by omega) (by omega) (by omega) hR hs
    have e : ¬ T (12 + 7 * l + 3) < S 1206 + 1 + i := by omega
    have pv := (hA.yr (y := S 1206 + 1 + i) (by omega) (by omega)).2.2.1
    have pl := vD_le (oy := 0) (op := 0) hW hw hQ.2.2.2.2.2.2.2.2 hl (m := 0) (by omega) (y := S 1206 + 1 + i) (by omega) (by omega)
    have s0 := hQ.2.2.2.2.2.2.1.1
    have e4 : S 1206 + 1 + i - S 1206 = i + 1 := by omega
    rw [fb_sm_succ, show S 1206 + 1 + (i + 1) = S 1206 + 1 + i + 1 by omega] at ih
    rw [← ih]
    simp (disch := omega) only [f_X7_life_23, reduceIte, ↓reduceIte, ↓ck_i, ↓nm_s, ↓bR_i, ↓bd_i, Option.isSome_some, Option.getD_some, gK, gR, gN, gIs, inb_nI, and_self, nI_clamp, fa_lit, pk_mul, nI_add, n10, n1z, n00, eq_self, not_true_eq_false, not_false_eq_true, hQ.1, hQ.2.2.2.1, hO.1, nI_ltI, e, pv, s0, pk_sub, e4, nI_l, lN_add, lN_mul]
theorem q_life_lp (hR : RQ B M T S c) (hl : l < T 0) (hA : QR B M T S l 0 0 0) {R : Option (Int64 × Mm)} : ∀ (d i n : Nat), d = T (12 + 7 * l + 3) + 1 - (S 1206 + 1 + i) → i < 30 → d < n → f_X8_least (B + 59) (lN (fb_sm (fun i => (i + 1) * vD T S l 0 0 0 (S 1206 + 1 + i)) (i + d))) (lN (ctS T S l 0)) M = R → R.isSome = true → f_X8_life_36 n (B + 59) (nI l) (lN (fb_sm (fun i => (i + 1) * vD T S l 0 0 0 (S 1206 + 1 + i)) i)) (nI (S 1206 + 1 + i)) M = R := by
  have hW := hR.2.2.2.1
  have hw := hR.2.2.2.2.1
  have w := (hW.2.2 l hl).2.2.2.2.2.2.1
  have y60 := hw.1
  have cx : ctS T S l 0 ≤ 60 := Nat.le_trans (fb_ct_le _ _) (hW.2.2 l hl).2.1
  have l3 := q_loanOf hR hl (w := 3) (by omega)
  have hm := q_howMany hR hl (st := 0) (by omega)
  intro d
  induction d with
  | zero =>
    intro i n hd hi hn hRr hs
    obtain ⟨n, rfl⟩ : ∃ m, n = m + 1 := ⟨n - 1, by omega⟩
    have e : T (12 + 7 * l + 3) < S 1206 + 1 + i := by omega
    change f_X8_least (B + 59) (lN (fb_sm (fun i => (i + 1) * vD T S l 0 0 0 (S 1206 + 1 + i)) i)) (lN (ctS T S l 0)) M = R at hRr
    obtain ⟨r, rfl⟩ := Option.isSome_iff_exists.mp hs
    simp (disch := omega) only [f_X8_life_36, reduceIte, ↓reduceIte, ↓ck_i, ↓nm_s, ↓bR_i, ↓bd_i, Option.isSome_some, Option.getD_some, gK, gR, gN, gIs, inb_nI, and_self, nI_clamp, fa_lit, pk_mul, nI_add, n10, n1z, n00, eq_self, not_true_eq_false, not_false_eq_true, hR.1, l3, hm, nI_ltI, e, nI_l]
    rw [hRr]
    rfl
  | succ d ih =>
    intro i n hd hi hn hRr hs
    obtain ⟨n, rfl⟩ : ∃ m, n = m + 1 := ⟨n - 1, by omega⟩
    rw [show i + (d + 1) = i + 1 + d by omega] at hRr
    have ih := ih (i + 1) n (by omega) (by omega) (by omega) hRr hs
    have e : ¬ T (12 + 7 * l + 3) < S 1206 + 1 + i := by omega
    have pv := (hA.yr (y := S 1206 + 1 + i) (by omega) (by omega)).2.2.1
    have pl := vD_le (oy := 0) (op := 0) hW hw hR.2.2.2.2.2 hl (m := 0) (by omega) (y := S 1206 + 1 + i) (by omega) (by omega)
    have s0 := hR.2.2.1 1206 (by omega)
    have e4 : S 1206 + 1 + i - S 1206 = i + 1 := by omega
    rw [fb_sm_succ, show S 1206 + 1 + (i + 1) = S 1206 + 1 + i + 1 by omega] at ih
    rw [← ih]
    simp (disch := omega) only [f_X8_life_36, reduceIte, ↓reduceIte, ↓ck_i, ↓nm_s, ↓bR_i, ↓bd_i, Option.isSome_some, Option.getD_some, gK, gR, gN, gIs, inb_nI, and_self, nI_clamp, fa_lit, pk_mul, nI_add, n10, n1z, n00, eq_self, not_true_eq_false, not_false_eq_true, hR.1, l3, nI_ltI, e, pv, s0, pk_sub, e4, nI_l, lN_add, lN_mul]
theorem life_le (hW : TW T) (hw : SW T S c) (hc : c ≤ 600) (hl : l < T 0) : fb_sm (fun i => (i + 1) * vD T S l 0 0 0 (S 1206 + 1 + i)) (T (12 + 7 * l + 3) + 1 - (S 1206 + 1)) ≤ 20 * 1200 := by
  have w := (hW.2.2 l hl).2.2.2.2.2.2.1
  refine Nat.le_trans (fb_sm_bound (c := 1200) (fun k hk => ?_)) (Nat.mul_le_mul_right _ (by omega))
  have pl := vD_le (oy := 0) (op := 0) hW hw hc hl (m := 0) (by omega) (y := S 1206 + 1 + k) (by omega) (by omega)
  exact Nat.le_trans (Nat.mul_le_mul (show k + 1 ≤ 20 by omega) (Nat.le_trans pl.1 pl.2)) (by omega)
theorem pr_life (hcc : c + 1 ≤ 600) : Pr B c (f_X7_life B x) (f_X8_life (B + 59) x) := by
  refine pr_q hcc (fun M t T S hQ hR ht => ?_)
  have w0 := hR.2.2.2.1.1
  have y60 := hR.2.2.2.2.1.1
  rcases ixL x (n := T 0) (by omega) with h | ⟨l, hl, rfl⟩
  · exact ⟨-1, M, by simp (disch := omega) only [f_X7_life, reduceIte, ↓reduceIte, ↓ck_i, ↓nm_s, ↓bR_i, ↓bd_i, Option.isSome_some, Option.getD_some, gK, gR, gN, gIs, inb_nI, and_self, nI_clamp, fa_lit, pk_mul, nI_add, n10, n1z, n00, eq_self, not_true_eq_false, not_false_eq_true, hQ.1, p_fst_0 hQ h], KC.rf, fun _ hR2 hb => ⟨sI M (B + 59) 0 (nI 0), by simp (disch := omega) only [f_X8_life, reduceIte, ↓reduceIte, ↓ck_i, ↓nm_s, ↓bR_i, ↓bd_i, Option.isSome_some, Option.getD_some, gK, gR, gN, gIs, inb_nI, and_self, nI_clamp, fa_lit, pk_mul, nI_add, n10, n1z, n00, eq_self, not_true_eq_false, not_false_eq_true, hR.1, hR2.1, q_has_0 hR2 h], KR.th (by omega) (by omega), hb⟩⟩
  have w := (hR.2.2.2.1.2.2 l hl).2.2.2.2.2.2.1
  obtain ⟨N, eN, n1, n2, n3⟩ := p_fst hQ ht hl
  have hQN := n1.cq hQ ht
  have cx : ctS T S l 0 ≤ 60 := Nat.le_trans (fb_ct_le _ _) (hR.2.2.2.1.2.2 l hl).2.1
  have ll := life_le (l := l) hR.2.2.2.1 hR.2.2.2.2.1 hR.2.2.2.2.2 hl
  by_cases h0 : ctS T S l 0 = 0
  · rw [if_pos h0] at eN
    refine ⟨-1, N, by simp (disch := omega) only [f_X7_life, reduceIte, ↓reduceIte, ↓ck_i, ↓nm_s, ↓bR_i, ↓bd_i, Option.isSome_some, Option.getD_some, gK, gR, gN, gIs, inb_nI, and_self, nI_clamp, fa_lit, pk_mul, nI_add, n10, n1z, n00, eq_self, not_true_eq_false, not_false_eq_true, hQ.1, eN], n1.c, fun hRN hR2 hb => ⟨sI N (B + 59) 0 (nI 0), ?_, KR.th (by omega) (by omega), by rw [sI_r, n1.1]; exact hb⟩⟩
    have hq := q_has hR2 hl
    rw [if_pos h0] at hq
    simp (disch := omega) only [f_X8_life, reduceIte, ↓reduceIte, ↓ck_i, ↓nm_s, ↓bR_i, ↓bd_i, Option.isSome_some, Option.getD_some, gK, gR, gN, gIs, inb_nI, and_self, nI_clamp, fa_lit, pk_mul, nI_add, n10, n1z, n00, eq_self, not_true_eq_false, not_false_eq_true, hRN.1, hR2.1, hq]
  · rw [if_neg h0] at eN
    have t1 := p_tell (B := B) (x := fb_sm (fun i => (i + 1) * vD T S l 0 0 0 (S 1206 + 1 + i)) (0 + (T (12 + 7 * l + 3) + 1 - (S 1206 + 1)))) (y := ctS T S l 0) (M := N) hQN.1.1 (by rw [Nat.zero_add]; omega) (by omega) (by omega)
    have lp := p_life_lp hQN hl n2 n3 (T (12 + 7 * l + 3) + 1 - (S 1206 + 1)) 0 FU rfl (by omega) (by unfold FU; omega) t1 rfl
    have e1 : f_X7_life B (nI l) M = f_X7_life_23 FU B (lN (fb_sm (fun i => (i + 1) * vD T S l 0 0 0 (S 1206 + 1 + i)) 0)) (nI (S 1206 + 1 + 0)) N := by
      simp (disch := omega) only [f_X7_life, reduceIte, ↓reduceIte, ↓ck_i, ↓nm_s, ↓bR_i, ↓bd_i, Option.isSome_some, Option.getD_some, gK, gR, gN, gIs, inb_nI, and_self, nI_clamp, fa_lit, pk_mul, nI_add, n10, n1z, n00, eq_self, not_true_eq_false, not_false_eq_true, hQ.1, hQN.1, eN, n2.1, fa_litL, fb_sm, Nat.add_zero]
    rw [lp] at e1
    refine ⟨_, _, e1, fr_c n1, fun hRN hR2 hb => ?_⟩
    obtain ⟨P, eP, p1, p2⟩ := q_tells0 hR2 hl
    have hRP := p1.rq hR2
    have hq := q_has hR2 hl
    rw [if_neg h0] at hq
    have t2 := q_least (B := B) (x := fb_sm (fun i => (i + 1) * vD T S l 0 0 0 (S 1206 + 1 + i)) (0 + (T (12 + 7 * l + 3) + 1 - (S 1206 + 1)))) (y := ctS T S l 0) (M := P) hRP.1.1 (by rw [Nat.zero_add]; omega) (by omega) (by omega)
    have lq := q_life_lp hRP hl p2 (T (12 + 7 * l + 3) + 1 - (S 1206 + 1)) 0 FU rfl (by omega) (by unfold FU; omega) t2 rfl
    have a2 := hRP.2.2.1 1206 (by omega)
    refine ⟨_, ?_, fr_r ((KR.th (j := 0) (v := nI 0) (by omega) (by omega)).tr p1.r), fr_b (N := N) (by rw [p1.1, sI_r])⟩
    rw [← lq]
    simp (disch := omega) only [f_X8_life, reduceIte, ↓reduceIte, ↓ck_i, ↓nm_s, ↓bR_i, ↓bd_i, Option.isSome_some, Option.getD_some, gK, gR, gN, gIs, inb_nI, and_self, nI_clamp, fa_lit, pk_mul, nI_add, n10, n1z, n00, eq_self, not_true_eq_false, not_false_eq_true, hRN.1, hR2.1, hRP.1, hq, eP, a2, fa_litL, fb_sm, Nat.add_zero]
theorem p_left (hC : CmD B M.2.2) {oy op m y : Nat} (hA : RR B M T S l oy op m) (h1 : S 1206 < y) (h2 : y ≤ T (12 + 7 * l + 3)) (h20 : T (12 + 7 * l + 3) ≤ 20) (hd : vD T S l oy op m y ≤ vS T S l oy op m y) : f_X4_leftBehind (B + 44) (nI y) M = some (nI (vS T S l oy op m y - vD T S l oy op m y), M) := by
  obtain ⟨a0, a1, a2, a3, a4⟩ := hA.yr h1 h2
  simp (disch := omega) only [f_X4_leftBehind, reduceIte, ↓reduceIte, ↓ck_i, ↓nm_s, ↓bR_i, ↓bd_i, Option.isSome_some, Option.getD_some, gK, gR, gN, gIs, inb_nI, and_self, nI_clamp, fa_lit, pk_mul, nI_add, n10, n1z, n00, eq_self, not_true_eq_false, not_false_eq_true, hC.a, a0, a2, pk_sub]
theorem pr_ifPrice (hcc : c + 1 ≤ 600) : Pr B c (f_X7_ifPrice B x y z u) (f_X8_ifPrice (B + 59) x y z u) := by
  refine pr_q hcc (fun M t T S hQ hR ht => ?_)
  have w0 := hR.2.2.2.1.1
  have y60 := hR.2.2.2.2.1.1
  rcases ixL x (n := T 0) (by omega) with h | ⟨l, hl, rfl⟩
  · exact ⟨-nI 1, M, by simp (disch := omega) only [f_X7_ifPrice, reduceIte, ↓reduceIte, ↓ck_i, ↓nm_s, ↓bR_i, ↓bd_i, Option.isSome_some, Option.getD_some, gK, gR, gN, gIs, inb_nI, and_self, nI_clamp, fa_lit, pk_mul, nI_add, n10, n1z, n00, eq_self, not_true_eq_false, not_false_eq_true, hQ.1, p_isToCome_0 hQ h], KC.rf, fun _ hR2 hb => ⟨sI M (B + 59) 0 (nI 0), by simp (disch := omega) only [f_X8_ifPrice, reduceIte, ↓reduceIte, ↓ck_i, ↓nm_s, ↓bR_i, ↓bd_i, Option.isSome_some, Option.getD_some, gK, gR, gN, gIs, inb_nI, and_self, nI_clamp, fa_lit, pk_mul, nI_add, n10, n1z, n00, eq_self, not_true_eq_false, not_false_eq_true, hR.1, hR2.1, q_isToCome_0 hR2 h], KR.th (by omega) (by omega), hb⟩⟩
  have w := (hR.2.2.2.1.2.2 l hl).2.2.2.2.2.2.1
  rcases ixN y (n := T (12 + 7 * l + 3)) (by omega) with h | ⟨k, hk, rfl⟩
  · exact ⟨-nI 1, M, by simp (disch := omega) only [f_X7_ifPrice, reduceIte, ↓reduceIte, ↓ck_i, ↓nm_s, ↓bR_i, ↓bd_i, Option.isSome_some, Option.getD_some, gK, gR, gN, gIs, inb_nI, and_self, nI_clamp, fa_lit, pk_mul, nI_add, n10, n1z, n00, eq_self, not_true_eq_false, not_false_eq_true, hQ.1, p_isToCome_n hQ hl h], KC.rf, fun _ hR2 hb => ⟨sI M (B + 59) 0 (nI 0), by simp (disch := omega) only [f_X8_ifPrice, reduceIte, ↓reduceIte, ↓ck_i, ↓nm_s, ↓bR_i, ↓bd_i, Option.isSome_some, Option.getD_some, gK, gR, gN, gIs, inb_nI, and_self, nI_clamp, fa_lit, pk_mul, nI_add, n10, n1z, n00, eq_self, not_true_eq_false, not_false_eq_true, hR.1, hR2.1, q_isToCome_n hR2 hl h], KR.th (by omega) (by omega), hb⟩⟩
  by_cases hy : k + 1 ≤ S 1206
  · exact ⟨-nI 1, M, by simp (disch := omega) only [f_X7_ifPrice, reduceIte, ↓reduceIte, ↓ck_i, ↓nm_s, ↓bR_i, ↓bd_i, Option.isSome_some, Option.getD_some, gK, gR, gN, gIs, inb_nI, and_self, nI_clamp, fa_lit, pk_mul, nI_add, n10, n1z, n00, eq_self, not_true_eq_false, not_false_eq_true, hQ.1, p_isToCome_m hQ hl hk hy], KC.rf, fun _ hR2 hb => ⟨sI M (B + 59) 0 (nI 0), by simp (disch := omega) only [f_X8_ifPrice, reduceIte, ↓reduceIte, ↓ck_i, ↓nm_s, ↓bR_i, ↓bd_i, Option.isSome_some, Option.getD_some, gK, gR, gN, gIs, inb_nI, and_self, nI_clamp, fa_lit, pk_mul, nI_add, n10, n1z, n00, eq_self, not_true_eq_false, not_false_eq_true, hR.1, hR2.1, q_isToCome_m hR2 hl hk hy], KR.th (by omega) (by omega), hb⟩⟩
  have hy : S 1206 < k + 1 := by omega
  have hi := p_isToCome_y hQ hl hk hy
  rcases ixN z (n := 999) (by omega) with h | ⟨p, hp, rfl⟩
  · rcases id h with h1 | ⟨h1, h2⟩
    · exact ⟨-nI 1, M, by simp (disch := omega) only [f_X7_ifPrice, reduceIte, ↓reduceIte, ↓ck_i, ↓nm_s, ↓bR_i, ↓bd_i, Option.isSome_some, Option.getD_some, gK, gR, gN, gIs, inb_nI, and_self, nI_clamp, fa_lit, pk_mul, nI_add, n10, n1z, n00, eq_self, not_true_eq_false, not_false_eq_true, hQ.1, hi, h1], KC.rf, fun _ hR2 hb => ⟨sI M (B + 59) 0 (nI 0), by simp (disch := omega) only [f_X8_ifPrice, reduceIte, ↓reduceIte, ↓ck_i, ↓nm_s, ↓bR_i, ↓bd_i, Option.isSome_some, Option.getD_some, gK, gR, gN, gIs, inb_nI, and_self, nI_clamp, fa_lit, pk_mul, nI_add, n10, n1z, n00, eq_self, not_true_eq_false, not_false_eq_true, hR.1, hR2.1, q_isToCome_y hR2 hl hk hy, fa_litL, wi1_n (n := 999) (by omega) h], KR.th (by omega) (by omega), hb⟩⟩
    · exact ⟨-nI 1, M, by simp (disch := omega) only [f_X7_ifPrice, reduceIte, ↓reduceIte, ↓ck_i, ↓nm_s, ↓bR_i, ↓bd_i, Option.isSome_some, Option.getD_some, gK, gR, gN, gIs, inb_nI, and_self, nI_clamp, fa_lit, pk_mul, nI_add, n10, n1z, n00, eq_self, not_true_eq_false, not_false_eq_true, hQ.1, hi, h1, h2], KC.rf, fun _ hR2 hb => ⟨sI M (B + 59) 0 (nI 0), by simp (disch := omega) only [f_X8_ifPrice, reduceIte, ↓reduceIte, ↓ck_i, ↓nm_s, ↓bR_i, ↓bd_i, Option.isSome_some, Option.getD_some, gK, gR, gN, gIs, inb_nI, and_self, nI_clamp, fa_lit, pk_mul, nI_add, n10, n1z, n00, eq_self, not_true_eq_false, not_false_eq_true, hR.1, hR2.1, q_isToCome_y hR2 hl hk hy, fa_litL, wi1_n (n := 999) (by omega) h], KR.th (by omega) (by omega), hb⟩⟩
  have b1 : ¬ p + 1 < 1 := by omega
  have b2 : ¬ 999 < p + 1 := by omega
  rcases ixN u (n := T (12 + 7 * l + 3)) (by omega) with h | ⟨j, hj, rfl⟩
  · have hiu := p_isToCome_n hQ hl h
    by_cases hu : u < nI (k + 1)
    · exact ⟨-nI 1, M, by simp (disch := omega) only [f_X7_ifPrice, reduceIte, ↓reduceIte, ↓ck_i, ↓nm_s, ↓bR_i, ↓bd_i, Option.isSome_some, Option.getD_some, gK, gR, gN, gIs, inb_nI, and_self, nI_clamp, fa_lit, pk_mul, nI_add, n10, n1z, n00, eq_self, not_true_eq_false, not_false_eq_true, hQ.1, hi, nI_ltI, b1, b2, hu], KC.rf, fun _ hR2 hb => ⟨sI M (B + 59) 0 (nI 0), by simp (disch := omega) only [f_X8_ifPrice, reduceIte, ↓reduceIte, ↓ck_i, ↓nm_s, ↓bR_i, ↓bd_i, Option.isSome_some, Option.getD_some, gK, gR, gN, gIs, inb_nI, and_self, nI_clamp, fa_lit, pk_mul, nI_add, n10, n1z, n00, eq_self, not_true_eq_false, not_false_eq_true, hR.1, hR2.1, q_isToCome_y hR2 hl hk hy, q_isToCome_n hR2 hl h, fa_litL, wi1_y (n := 999)], KR.th (by omega) (by omega), hb⟩⟩
    · exact ⟨-nI 1, M, by simp (disch := omega) only [f_X7_ifPrice, reduceIte, ↓reduceIte, ↓ck_i, ↓nm_s, ↓bR_i, ↓bd_i, Option.isSome_some, Option.getD_some, gK, gR, gN, gIs, inb_nI, and_self, nI_clamp, fa_lit, pk_mul, nI_add, n10, n1z, n00, eq_self, not_true_eq_false, not_false_eq_true, hQ.1, hi, nI_ltI, b1, b2, hu, hiu], KC.rf, fun _ hR2 hb => ⟨sI M (B + 59) 0 (nI 0), by simp (disch := omega) only [f_X8_ifPrice, reduceIte, ↓reduceIte, ↓ck_i, ↓nm_s, ↓bR_i, ↓bd_i, Option.isSome_some, Option.getD_some, gK, gR, gN, gIs, inb_nI, and_self, nI_clamp, fa_lit, pk_mul, nI_add, n10, n1z, n00, eq_self, not_true_eq_false, not_false_eq_true, hR.1, hR2.1, q_isToCome_y hR2 hl hk hy, q_isToCome_n hR2 hl h, fa_litL, wi1_y (n := 999)], KR.th (by omega) (by omega), hb⟩⟩
  by_cases hu : j + 1 ≤ S 1206
  · have b3 : j + 1 < k + 1 := by omega
    exact ⟨-nI 1, M, by simp (disch := omega) only [f_X7_ifPrice, reduceIte, ↓reduceIte, ↓ck_i, ↓nm_s, ↓bR_i, ↓bd_i, Option.isSome_some, Option.getD_some, gK, gR, gN, gIs, inb_nI, and_self, nI_clamp, fa_lit, pk_mul, nI_add, n10, n1z, n00, eq_self, not_true_eq_false, not_false_eq_true, hQ.1, hi, nI_ltI, b1, b2, b3], KC.rf, fun _ hR2 hb => ⟨sI M (B + 59) 0 (nI 0), by simp (disch := omega) only [f_X8_ifPrice, reduceIte, ↓reduceIte, ↓ck_i, ↓nm_s, ↓bR_i, ↓bd_i, Option.isSome_some, Option.getD_some, gK, gR, gN, gIs, inb_nI, and_self, nI_clamp, fa_lit, pk_mul, nI_add, n10, n1z, n00, eq_self, not_true_eq_false, not_false_eq_true, hR.1, hR2.1, q_isToCome_y hR2 hl hk hy, q_isToCome_m hR2 hl hj hu, fa_litL, wi1_y (n := 999)], KR.th (by omega) (by omega), hb⟩⟩
  have hu : S 1206 < j + 1 := by omega
  by_cases hjk : j + 1 < k + 1
  · have b3 : ¬ k + 1 ≤ j + 1 := by omega
    exact ⟨-nI 1, M, by simp (disch := omega) only [f_X7_ifPrice, reduceIte, ↓reduceIte, ↓ck_i, ↓nm_s, ↓bR_i, ↓bd_i, Option.isSome_some, Option.getD_some, gK, gR, gN, gIs, inb_nI, and_self, nI_clamp, fa_lit, pk_mul, nI_add, n10, n1z, n00, eq_self, not_true_eq_false, not_false_eq_true, hQ.1, hi, nI_ltI, b1, b2, hjk], KC.rf, fun _ hR2 hb => ⟨sI M (B + 59) 0 (nI 0), by simp (disch := omega) only [f_X8_ifPrice, reduceIte, ↓reduceIte, ↓ck_i, ↓nm_s, ↓bR_i, ↓bd_i, Option.isSome_some, Option.getD_some, gK, gR, gN, gIs, inb_nI, and_self, nI_clamp, fa_lit, pk_mul, nI_add, n10, n1z, n00, eq_self, not_true_eq_false, not_false_eq_true, hR.1, hR2.1, q_isToCome_y hR2 hl hk hy, q_isToCome_y hR2 hl hj hu, fa_litL, wi1_y (n := 999), nI_leI, b3], KR.th (by omega) (by omega), hb⟩⟩
  have b3 : k + 1 ≤ j + 1 := by omega
  obtain ⟨N, eN, n1, n2⟩ := p_open hQ ht hl
  have hQN := n1.cq hQ ht
  obtain ⟨N2, eN2, m1, m2, m3⟩ := p_run hQN hl n2 (oy := k + 1) (op := p + 1) (m := 0) (by omega) (Or.inr (by omega)) (by omega)
  have hQ2 := m1.cq hQN ht
  have hv := vD_le (oy := k + 1) (op := p + 1) hR.2.2.2.1 hR.2.2.2.2.1 (by omega) hl (m := 0) (by omega) hu (by omega)
  have lf := p_left hQ2.1 m3 hu (by omega) w hv.1
  have e1 : f_X7_ifPrice B (nI l) (nI (k + 1)) (nI (p + 1)) (nI (j + 1)) M = some (nI (vS T S l (k + 1) (p + 1) 0 (j + 1) - vD T S l (k + 1) (p + 1) 0 (j + 1)), N2) := by
    simp (disch := omega) only [f_X7_ifPrice, reduceIte, ↓reduceIte, ↓ck_i, ↓nm_s, ↓bR_i, ↓bd_i, Option.isSome_some, Option.getD_some, gK, gR, gN, gIs, inb_nI, and_self, nI_clamp, fa_lit, pk_mul, nI_add, n10, n1z, n00, eq_self, not_true_eq_false, not_false_eq_true, hQ.1, hQ.2.1, hQN.1, hQ2.1, hi, p_isToCome_y hQ hl hj hu, nI_ltI, b1, b2, hjk, eN, eN2, lf]
  refine ⟨_, _, e1, (n1.tr m1).c, fun hRN hR2 hb => ?_⟩
  obtain ⟨P, eP, p1, p2⟩ := q_tells hR2 hl (oy := k + 1) (op := p + 1) (m := 0) (by omega) (Or.inr (by omega)) (by omega)
  have hRP := p1.rq hR2
  obtain ⟨a0, a1, a2, a3, a4⟩ := p2.yr hu (by omega)
  refine ⟨P, ?_, (KR.th (by omega) (by omega)).tr p1.r, by rw [p1.1, sI_r, (n1.tr m1).1]; exact hb⟩
  simp (disch := omega) only [f_X8_ifPrice, reduceIte, ↓reduceIte, ↓ck_i, ↓nm_s, ↓bR_i, ↓bd_i, Option.isSome_some, Option.getD_some, gK, gR, gN, gIs, inb_nI, and_self, nI_clamp, fa_lit, pk_mul, nI_add, n10, n1z, n00, eq_self, not_true_eq_false, not_false_eq_true, hRN.1, hR2.1, hRP.1, q_isToCome_y hR2 hl hk hy, q_isToCome_y hR2 hl hj hu, fa_litL, wi1_y (n := 999), nI_leI, b3, eP, Nat.add_zero, a0, a2, pk_sub]
/-- the first year behind which half are retired -/
def hfR (T S : Nat → Nat) (l : Nat) : Nat → Nat → Nat
  | 0, y => y
  | d + 1, y => if ctS T S l 0 ≤ 2 * (ctS T S l 0 - vS T S l 0 0 0 (y + 1)) then y else hfR T S l d (y + 1)
theorem vS_last (h1 : S 1206 < T (12 + 7 * l + 3)) : vS T S l 0 0 0 (T (12 + 7 * l + 3) + 1) = 0 := by
  rw [vS_next h1]
  unfold vD duR
  rw [if_pos rfl]
  omega
theorem vS_mono (hW : TW T) (hw : SW T S c) (hc : c ≤ 600) (hl : l < T 0) : ∀ i, S 1206 + 1 + i ≤ T (12 + 7 * l + 3) + 1 → vS T S l 0 0 0 (S 1206 + 1 + i) ≤ ctS T S l 0
  | 0, _ => by rw [Nat.add_zero, vS_0]; exact Nat.le_refl _
  | i + 1, h => by
    have := vS_mono hW hw hc hl i (by omega)
    rw [show S 1206 + 1 + (i + 1) = S 1206 + 1 + i + 1 by omega, vS_next (by omega)]
    omega
theorem p_half_lp (hQ : CQ B t M T S c) (hl : l < T 0) (hO : RO B M T S l) (hA : RR B M T S l 0 0 0) : ∀ (d y n : Nat), y + d = T (12 + 7 * l + 3) → S 1206 < y → d < n → f_X7_half_18 n B (nI y) M = some (nI (hfR T S l d y), M) := by
  have hW := hQ.2.2.2.2.1
  have hw := hQ.2.2.2.2.2.2.2.1
  have w := (hW.2.2 l hl).2.2.2.2.2.2.1
  have y60 := hw.1
  have cx : ctS T S l 0 ≤ 60 := Nat.le_trans (fb_ct_le _ _) (hW.2.2 l hl).2.1
  intro d
  induction d with
  | zero =>
    intro y n hd hy hn
    obtain ⟨n, rfl⟩ : ∃ m, n = m + 1 := ⟨n - 1, by omega⟩
    have e : ¬ T (12 + 7 * l + 3) < y := by omega
    have pl := vD_le (oy := 0) (op := 0) hW hw hQ.2.2.2.2.2.2.2.2 hl (m := 0) (by omega) (y := y) hy (by omega)
    have lf := p_left hQ.1 hA hy (by omega) w pl.1
    have z := vS_last (S := S) (l := l) (T := T) (by omega)
    rw [show T (12 + 7 * l + 3) + 1 = y + 1 by omega, vS_next hy] at z
    rw [z] at lf
    have e2 : ¬ 2 * ctS T S l 0 < ctS T S l 0 := by omega
    simp (disch := omega) only [f_X7_half_18, reduceIte, ↓reduceIte, ↓ck_i, ↓nm_s, ↓bR_i, ↓bd_i, Option.isSome_some, Option.getD_some, gK, gR, gN, gIs, inb_nI, and_self, nI_clamp, fa_lit, pk_mul, nI_add, n10, n1z, n00, eq_self, not_true_eq_false, not_false_eq_true, hQ.1, hO.1, nI_ltI, e, lf, pk_sub, Nat.sub_zero, e2, hfR]
  | succ d ih =>
    intro y n hd hy hn
    obtain ⟨n, rfl⟩ : ∃ m, n = m + 1 := ⟨n - 1, by omega⟩
    have ih := ih (y + 1) n (by omega) (by omega) (by omega)
    have e : ¬ T (12 + 7 * l + 3) < y := by omega
    have pl := vD_le (oy := 0) (op := 0) hW hw hQ.2.2.2.2.2.2.2.2 hl (m := 0) (by omega) (y := y) hy (by omega)
    have lf := p_left hQ.1 hA hy (by omega) w pl.1
    have mo := vS_mono hW hw hQ.2.2.2.2.2.2.2.2 hl (y + 1 - (S 1206 + 1)) (by omega)
    rw [show S 1206 + 1 + (y + 1 - (S 1206 + 1)) = y + 1 by omega] at mo
    rw [← vS_next hy] at lf
    unfold hfR
    by_cases h2 : 2 * (ctS T S l 0 - vS T S l 0 0 0 (y + 1)) < ctS T S l 0
    · rw [if_neg (by omega), ← ih]
      simp (disch := omega) only [f_X7_half_18, reduceIte, ↓reduceIte, ↓ck_i, ↓nm_s, ↓bR_i, ↓bd_i, Option.isSome_some, Option.getD_some, gK, gR, gN, gIs, inb_nI, and_self, nI_clamp, fa_lit, pk_mul, nI_add, n10, n1z, n00, eq_self, not_true_eq_false, not_false_eq_true, hQ.1, hO.1, nI_ltI, e, lf, pk_sub, h2]
    · rw [if_pos (by omega)]
      simp (disch := omega) only [f_X7_half_18, reduceIte, ↓reduceIte, ↓ck_i, ↓nm_s, ↓bR_i, ↓bd_i, Option.isSome_some, Option.getD_some, gK, gR, gN, gIs, inb_nI, and_self, nI_clamp, fa_lit, pk_mul, nI_add, n10, n1z, n00, eq_self, not_true_eq_false, not_false_eq_true, hQ.1, hO.1, nI_ltI, e, lf, pk_sub, h2]
theorem q_half_lp (hR : RQ B M T S c) (hl : l < T 0) (hA : QR B M T S l 0 0 0) (h0 : ctS T S l 0 ≠ 0) : ∀ (d y n : Nat), y + d = T (12 + 7 * l + 3) → S 1206 < y → d + 1 < n → ¬ ctS T S l 0 ≤ 2 * (ctS T S l 0 - vS T S l 0 0 0 y) → f_X8_half_31 n (B + 59) (nI l) (nI (ctS T S l 0 - vS T S l 0 0 0 y)) (nI (y - 1)) M = some (nI (hfR T S l d y), M) := by
  have hW := hR.2.2.2.1
  have hw := hR.2.2.2.2.1
  have w := (hW.2.2 l hl).2.2.2.2.2.2.1
  have y60 := hw.1
  have cx : ctS T S l 0 ≤ 60 := Nat.le_trans (fb_ct_le _ _) (hW.2.2 l hl).2.1
  have hm := q_howMany hR hl (st := 0) (by omega)
  have st : ∀ (y n : Nat), S 1206 < y → y ≤ T (12 + 7 * l + 3) → ¬ ctS T S l 0 ≤ 2 * (ctS T S l 0 - vS T S l 0 0 0 y) → f_X8_half_31 (n + 1) (B + 59) (nI l) (nI (ctS T S l 0 - vS T S l 0 0 0 y)) (nI (y - 1)) M = f_X8_half_31 n (B + 59) (nI l) (nI (ctS T S l 0 - vS T S l 0 0 0 (y + 1))) (nI (y + 1 - 1)) M := by
    intro y n h1 h2 hn
    obtain ⟨a0, a1, a2, a3, a4⟩ := hA.yr h1 h2
    have pl := vD_le (oy := 0) (op := 0) hW hw hR.2.2.2.2.2 hl (m := 0) (by omega) (y := y) h1 h2
    have mo := vS_mono hW hw hR.2.2.2.2.2 hl (y - (S 1206 + 1)) (by omega)
    rw [show S 1206 + 1 + (y - (S 1206 + 1)) = y by omega] at mo
    have e1 : y - 1 + 1 = y := by omega
    have e2 : ctS T S l 0 - vS T S l 0 0 0 y + vD T S l 0 0 0 y = ctS T S l 0 - vS T S l 0 0 0 (y + 1) := by rw [vS_next h1]; omega
    rw [show y + 1 - 1 = y by omega]
    clear a0 a1 a3 a4
    simp (disch := omega) only [f_X8_half_31, reduceIte, ↓reduceIte, ↓ck_i, ↓nm_s, ↓bR_i, ↓bd_i, Option.isSome_some, Option.getD_some, gK, gR, gN, gIs, inb_nI, and_self, nI_clamp, fa_lit, pk_mul, nI_add, n10, n1z, n00, eq_self, not_true_eq_false, not_false_eq_true, hR.1, hm, nI_leI, hn, e1, a2, e2]
  have ex : ∀ (y n : Nat), y < 100 → ctS T S l 0 ≤ 2 * (ctS T S l 0 - vS T S l 0 0 0 (y + 1)) → f_X8_half_31 (n + 1) (B + 59) (nI l) (nI (ctS T S l 0 - vS T S l 0 0 0 (y + 1))) (nI (y + 1 - 1)) M = some (nI y, M) := by
    intro y n h1 hn
    rw [show y + 1 - 1 = y by omega]
    simp (disch := omega) only [f_X8_half_31, reduceIte, ↓reduceIte, ↓ck_i, ↓nm_s, ↓bR_i, ↓bd_i, Option.isSome_some, Option.getD_some, gK, gR, gN, gIs, inb_nI, and_self, nI_clamp, fa_lit, pk_mul, nI_add, n10, n1z, n00, eq_self, not_true_eq_false, not_false_eq_true, hR.1, hm, nI_leI, hn]
  intro d
  induction d with
  | zero =>
    intro y n hd hy hn hs
    obtain ⟨n, rfl⟩ : ∃ m, n = m + 2 := ⟨n - 2, by omega⟩
    rw [st y (n + 1) hy (by omega) hs, ex y n (by omega)]
    · rfl
    · have z := vS_last (S := S) (l := l) (T := T) (by omega)
      rw [show T (12 + 7 * l + 3) + 1 = y + 1 by omega] at z
      omega
  | succ d ih =>
    intro y n hd hy hn hs
    obtain ⟨n, rfl⟩ : ∃ m, n = m + 2 := ⟨n - 2, by omega⟩
    rw [st y (n + 1) hy (by omega) hs]
    unfold hfR
    by_cases h2 : ctS T S l 0 ≤ 2 * (ctS T S l 0 - vS T S l 0 0 0 (y + 1))
    · rw [if_pos h2, ex y n (by omega) h2]
    · rw [if_neg h2]
      exact ih (y + 1) (n + 1) (by omega) (by omega) (by omega) h2
theorem pr_half (hcc : c + 1 ≤ 600) : Pr B c (f_X7_half B x) (f_X8_half (B + 59) x) := by
  refine pr_q hcc (fun M t T S hQ hR ht => ?_)
  have w0 := hR.2.2.2.1.1
  have y60 := hR.2.2.2.2.1.1
  rcases ixL x (n := T 0) (by omega) with h | ⟨l, hl, rfl⟩
  · exact ⟨-nI 1, M, by simp (disch := omega) only [f_X7_half, reduceIte, ↓reduceIte, ↓ck_i, ↓nm_s, ↓bR_i, ↓bd_i, Option.isSome_some, Option.getD_some, gK, gR, gN, gIs, inb_nI, and_self, nI_clamp, fa_lit, pk_mul, nI_add, n10, n1z, n00, eq_self, not_true_eq_false, not_false_eq_true, hQ.1, p_fst_0 hQ h], KC.rf, fun _ hR2 hb => ⟨sI M (B + 59) 0 (nI 0), by simp (disch := omega) only [f_X8_half, reduceIte, ↓reduceIte, ↓ck_i, ↓nm_s, ↓bR_i, ↓bd_i, Option.isSome_some, Option.getD_some, gK, gR, gN, gIs, inb_nI, and_self, nI_clamp, fa_lit, pk_mul, nI_add, n10, n1z, n00, eq_self, not_true_eq_false, not_false_eq_true, hR.1, hR2.1, q_has_0 hR2 h], KR.th (by omega) (by omega), hb⟩⟩
  have w := (hR.2.2.2.1.2.2 l hl).2.2.2.2.2.2.1
  obtain ⟨N, eN, n1, n2, n3⟩ := p_fst hQ ht hl
  have hQN := n1.cq hQ ht
  have cx : ctS T S l 0 ≤ 60 := Nat.le_trans (fb_ct_le _ _) (hR.2.2.2.1.2.2 l hl).2.1
  by_cases h0 : ctS T S l 0 = 0
  · rw [if_pos h0] at eN
    refine ⟨-nI 1, N, by simp (disch := omega) only [f_X7_half, reduceIte, ↓reduceIte, ↓ck_i, ↓nm_s, ↓bR_i, ↓bd_i, Option.isSome_some, Option.getD_some, gK, gR, gN, gIs, inb_nI, and_self, nI_clamp, fa_lit, pk_mul, nI_add, n10, n1z, n00, eq_self, not_true_eq_false, not_false_eq_true, hQ.1, eN], n1.c, fun hRN hR2 hb => ⟨sI N (B + 59) 0 (nI 0), ?_, KR.th (by omega) (by omega), by rw [sI_r, n1.1]; exact hb⟩⟩
    have hq := q_has hR2 hl
    rw [if_pos h0] at hq
    simp (disch := omega) only [f_X8_half, reduceIte, ↓reduceIte, ↓ck_i, ↓nm_s, ↓bR_i, ↓bd_i, Option.isSome_some, Option.getD_some, gK, gR, gN, gIs, inb_nI, and_self, nI_clamp, fa_lit, pk_mul, nI_add, n10, n1z, n00, eq_self, not_true_eq_false, not_false_eq_true, hRN.1, hR2.1, hq]
  · rw [if_neg h0] at eN
    have hyl : S 1206 < T (12 + 7 * l + 3) := by
      refine Nat.lt_of_not_le (fun hge => h0 (fb_ct_zero.mpr (fun k hk => ?_)))
      exact decide_eq_false ((hR.2.2.2.2.1.2.2.2.2.1 l hl k hk).2.2.2.2.2.2.2.1 hge)
    have lp := p_half_lp hQN hl n2 n3 (T (12 + 7 * l + 3) - (S 1206 + 1)) (S 1206 + 1) FU (by omega) (by omega) (by unfold FU; omega)
    have e1 : f_X7_half B (nI l) M = some (nI (hfR T S l (T (12 + 7 * l + 3) - (S 1206 + 1)) (S 1206 + 1)), N) := by
      rw [← lp]
      simp (disch := omega) only [f_X7_half, reduceIte, ↓reduceIte, ↓ck_i, ↓nm_s, ↓bR_i, ↓bd_i, Option.isSome_some, Option.getD_some, gK, gR, gN, gIs, inb_nI, and_self, nI_clamp, fa_lit, pk_mul, nI_add, n10, n1z, n00, eq_self, not_true_eq_false, not_false_eq_true, hQ.1, hQN.1, eN, n2.1]
    refine ⟨_, _, e1, n1.c, fun hRN hR2 hb => ?_⟩
    obtain ⟨P, eP, p1, p2⟩ := q_tells0 hR2 hl
    have hRP := p1.rq hR2
    have hq := q_has hR2 hl
    rw [if_neg h0] at hq
    have lq := q_half_lp hRP hl p2 h0 (T (12 + 7 * l + 3) - (S 1206 + 1)) (S 1206 + 1) FU (by omega) (by omega) (by unfold FU; omega) (by rw [vS_0]; omega)
    rw [vS_0, Nat.sub_self, Nat.add_sub_cancel] at lq
    have a2 := hRP.2.2.1 1206 (by omega)
    refine ⟨P, ?_, (KR.th (by omega) (by omega)).tr p1.r, by rw [p1.1, sI_r, n1.1]; exact hb⟩
    rw [← lq]
    simp (disch := omega) only [f_X8_half, reduceIte, ↓reduceIte, ↓ck_i, ↓nm_s, ↓bR_i, ↓bd_i, Option.isSome_some, Option.getD_some, gK, gR, gN, gIs, inb_nI, and_self, nI_clamp, fa_lit, pk_mul, nI_add, n10, n1z, n00, eq_self, not_true_eq_false, not_false_eq_true, hRN.1, hR2.1, hRP.1, hq, eP, a2]
end ASK6
