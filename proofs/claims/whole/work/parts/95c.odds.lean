/-- the sets with k or more, d of them -/
def aT (al ow du k : Nat) : Nat := if du < k then 0 else bn ow k * bn (al - ow) (du - k)
def aS (al ow du : Nat) : Nat → Nat → Nat
  | 0, _ => 0
  | d + 1, k => aT al ow du k + aS al ow du d (k + 1)
section AT
variable {B t c l : Nat} {T S : Nat → Nat} {M N : Mm} {x y z u : Int32}
theorem aS_0 {al ow du : Nat} : ∀ {d k : Nat}, du < k → aS al ow du d k = 0
  | 0, _, _ => rfl
  | d + 1, k, h => by
    show aT al ow du k + aS al ow du d (k + 1) = 0
    rw [aS_0 (by omega)]
    unfold aT
    rw [if_pos h]
theorem aT_le {al ow du k : Nat} (ha : al ≤ 60) (ho : ow ≤ al) : aT al ow du k ≤ 118264581564861424 := by
  unfold aT
  split
  · omega
  · have h := bn_van ow (al - ow) k (du - k)
    exact Nat.le_trans h (bn_le _ _ (by omega))
theorem aS_le {al ow du : Nat} (ha : al ≤ 60) (ho : ow ≤ al) : ∀ {d k : Nat}, aS al ow du d k ≤ d * 118264581564861424
  | 0, _ => by show 0 ≤ _; omega
  | d + 1, k => by
    have h1 := aS_le ha ho (du := du) (d := d) (k := k + 1)
    have h2 := aT_le (du := du) (k := k) ha ho
    show aT al ow du k + aS al ow du d (k + 1) ≤ _
    rw [Nat.add_mul]
    omega
theorem p_at_lp (hC : CmD B M.2.2) {al ow du : Nat} (ha : al ≤ 60) (ho : ow ≤ al) (hd : du ≤ al) (e10 : M.1 (B + 44) 10 = nI al) {R : Option (Int64 × Mm)} : ∀ (d k n a : Nat), k + d = ow + 1 ∨ (d = 0 ∧ ow < k) → k ≤ 61 → d < n → f_X7_tell B (lN (a + aS al ow du d k)) (lN (bn al du)) M = R → R.isSome = true → f_X7_atLeast_95 n B (nI du) (nI ow) (lN a) (nI k) M = R := by
  have fin : ∀ (a : Nat), f_X7_tell B (lN a) (lN (bn al du)) M = R → R.isSome = true → (if (f_X7_tell B (lN a) (lN (bn al du)) M).isSome = true then some (((f_X7_tell B (lN a) (lN (bn al du)) M).getD (default, mm0)).1, ((f_X7_tell B (lN a) (lN (bn al du)) M).getD (default, mm0)).2) else none) = R := fun a h1 h2 => by
    obtain ⟨r, rfl⟩ := Option.isSome_iff_exists.mp h2
    rw [h1]
    rfl
  have c1 := p_ch (M := M) (n := al) (k := du) ha (by omega)
  intro d
  induction d with
  | zero =>
    intro k n a hk hk61 hn hR hs
    obtain ⟨n, rfl⟩ : ∃ m, n = m + 1 := ⟨n - 1, by omega⟩
    have e : ow < k := by omega
    change f_X7_tell B (lN a) (lN (bn al du)) M = R at hR
    simp (disch := omega) only [f_X7_atLeast_95, reduceIte, ↓reduceIte, ↓ck_i, ↓nm_s, ↓bR_i, ↓bd_i, Option.isSome_some, Option.getD_some, gK, gR, gN, gIs, inb_nI, and_self, nI_clamp, fa_lit, pk_mul, nI_add, n10, n1z, n00, eq_self, not_true_eq_false, not_false_eq_true, nI_ltI, e, hC.a, e10, c1]
    exact fin a hR hs
  | succ d ih =>
    intro k n a hk hk61 hn hR hs
    obtain ⟨n, rfl⟩ : ∃ m, n = m + 1 := ⟨n - 1, by omega⟩
    have e : ¬ ow < k := by omega
    by_cases hdk : du < k
    · rw [aS_0 hdk] at hR
      change f_X7_tell B (lN a) (lN (bn al du)) M = R at hR
      simp (disch := omega) only [f_X7_atLeast_95, reduceIte, ↓reduceIte, ↓ck_i, ↓nm_s, ↓bR_i, ↓bd_i, Option.isSome_some, Option.getD_some, gK, gR, gN, gIs, inb_nI, and_self, nI_clamp, fa_lit, pk_mul, nI_add, n10, n1z, n00, eq_self, not_true_eq_false, not_false_eq_true, nI_ltI, e, hdk, hC.a, e10, c1]
      exact fin a hR hs
    · have e2 : a + aS al ow du (d + 1) k = a + bn ow k * bn (al - ow) (du - k) + aS al ow du d (k + 1) := by
        show a + (aT al ow du k + _) = _
        unfold aT
        rw [if_neg hdk, Nat.add_assoc]
      rw [e2] at hR
      have ih := ih (k + 1) n (a + bn ow k * bn (al - ow) (du - k)) (by omega) (by omega) (by omega) hR hs
      have c2 := p_ch (M := M) (n := ow) (k := k) (by omega) (by omega)
      have c3 := p_ch (M := M) (n := al - ow) (k := du - k) (by omega) (by omega)
      rw [← ih]
      simp (disch := omega) only [f_X7_atLeast_95, reduceIte, ↓reduceIte, ↓ck_i, ↓nm_s, ↓bR_i, ↓bd_i, Option.isSome_some, Option.getD_some, gK, gR, gN, gIs, inb_nI, and_self, nI_clamp, fa_lit, pk_mul, nI_add, n10, n1z, n00, eq_self, not_true_eq_false, not_false_eq_true, nI_ltI, e, hdk, hC.a, e10, c2, pk_sub, c3, lN_mul, lN_add]
theorem q_at_lp (hK : gK M (B + 59) = 8) {al ow du : Nat} (ha : al ≤ 60) (ho : ow ≤ al) (hd : du ≤ al) {R : Option (Int64 × Mm)} : ∀ (d k n a : Nat), k + d = ow + 1 ∨ (d = 0 ∧ ow < k) → k ≤ 61 → d < n → f_X8_least (B + 59) (lN (a + aS al ow du d k)) (lN (bn al du)) M = R → R.isSome = true → f_X8_atLeast_104 n (B + 59) (nI al) (nI ow) (nI du) (lN a) (nI k) M = R := by
  have c1 := q_ch (M := M) (n := al) (k := du) ha (by omega)
  have hK' : M.2.2.2.1 (B + 59) = 8 := hK
  intro d
  induction d with
  | zero =>
    intro k n a hk hk61 hn hR hs
    obtain ⟨n, rfl⟩ : ∃ m, n = m + 1 := ⟨n - 1, by omega⟩
    have e : ow < k := by omega
    change f_X8_least (B + 59) (lN a) (lN (bn al du)) M = R at hR
    simp (disch := omega) only [f_X8_atLeast_104, reduceIte, ↓reduceIte, ↓ck_i, ↓nm_s, ↓bR_i, ↓bd_i, Option.isSome_some, Option.getD_some, gK, gR, gN, gIs, inb_nI, and_self, nI_clamp, fa_lit, pk_mul, nI_add, n10, n1z, n00, eq_self, not_true_eq_false, not_false_eq_true, nI_ltI, e, hK', c1]
    obtain ⟨r, rfl⟩ := Option.isSome_iff_exists.mp hs
    rw [hR]
    rfl
  | succ d ih =>
    intro k n a hk hk61 hn hR hs
    obtain ⟨n, rfl⟩ : ∃ m, n = m + 1 := ⟨n - 1, by omega⟩
    have e : ¬ ow < k := by omega
    have c2 := q_ch (M := M) (n := ow) (k := k) (by omega) (by omega)
    have e2 : a + aS al ow du (d + 1) k = a + aT al ow du k + aS al ow du d (k + 1) := by
      show a + (aT al ow du k + _) = _
      rw [Nat.add_assoc]
    rw [e2] at hR
    have ih := ih (k + 1) n (a + aT al ow du k) (by omega) (by omega) (by omega) hR hs
    rw [← ih]
    unfold aT
    by_cases hdk : du < k
    · have c3 := q_choose_neg (M := M) (n := al - ow) (a := du) (b := k) (by omega) hdk (by omega)
      rw [if_pos hdk]
      simp (disch := omega) only [f_X8_atLeast_104, reduceIte, ↓reduceIte, ↓ck_i, ↓nm_s, ↓bR_i, ↓bd_i, Option.isSome_some, Option.getD_some, gK, gR, gN, gIs, inb_nI, and_self, nI_clamp, fa_lit, pk_mul, nI_add, n10, n1z, n00, eq_self, not_true_eq_false, not_false_eq_true, nI_ltI, e, c2, pk_sub (show ow ≤ al from ho), c3, lN_mul, Nat.mul_zero, lN_add]
    · have c3 := q_ch (M := M) (n := al - ow) (k := du - k) (by omega) (by omega)
      rw [if_neg hdk]
      simp (disch := omega) only [f_X8_atLeast_104, reduceIte, ↓reduceIte, ↓ck_i, ↓nm_s, ↓bR_i, ↓bd_i, Option.isSome_some, Option.getD_some, gK, gR, gN, gIs, inb_nI, and_self, nI_clamp, fa_lit, pk_mul, nI_add, n10, n1z, n00, eq_self, not_true_eq_false, not_false_eq_true, nI_ltI, e, c2, pk_sub, c3, lN_mul, lN_add]
theorem ow_le {h : Nat} : fb_ct (fun k => decide (S (60 * l + k) = 0) && decide (S (240 + 60 * l + k) = h + 1)) (T (12 + 7 * l)) ≤ ctS T S l 0 := fb_ct_sub (fun k _ hk => by rw [Bool.and_eq_true] at hk; exact hk.1)
theorem pr_atLeast (hcc : c + 1 ≤ 600) : Pr B c (f_X7_atLeast B x y z) (f_X8_atLeast (B + 59) x y z) := by
  refine pr_q hcc (fun M t T S hQ hR ht => ?_)
  have w0 := hR.2.2.2.1.1
  have w1 := hR.2.2.2.1.2.1
  have y60 := hR.2.2.2.2.1.1
  rcases ixL x (n := T 1) (by omega) with h | ⟨h, hh, rfl⟩
  · exact ⟨-1, M, by simp (disch := omega) only [f_X7_atLeast, reduceIte, ↓reduceIte, ↓ck_i, ↓nm_s, ↓bR_i, ↓bd_i, Option.isSome_some, Option.getD_some, gK, gR, gN, gIs, inb_nI, and_self, nI_clamp, fa_lit, pk_mul, nI_add, n10, n1z, n00, eq_self, not_true_eq_false, not_false_eq_true, hQ.1, p_isHolder_n hQ h], KC.rf, fun _ hR2 hb => ⟨sI M (B + 59) 0 (nI 0), by simp (disch := omega) only [f_X8_atLeast, reduceIte, ↓reduceIte, ↓ck_i, ↓nm_s, ↓bR_i, ↓bd_i, Option.isSome_some, Option.getD_some, gK, gR, gN, gIs, inb_nI, and_self, nI_clamp, fa_lit, pk_mul, nI_add, n10, n1z, n00, eq_self, not_true_eq_false, not_false_eq_true, hR.1, hR2.1, q_isHolder_n hR2 h], KR.th (by omega) (by omega), hb⟩⟩
  have ph := p_isHolder_y hQ hh
  rcases ixL y (n := T 0) (by omega) with h2 | ⟨l, hl, rfl⟩
  · exact ⟨-1, M, by simp (disch := omega) only [f_X7_atLeast, reduceIte, ↓reduceIte, ↓ck_i, ↓nm_s, ↓bR_i, ↓bd_i, Option.isSome_some, Option.getD_some, gK, gR, gN, gIs, inb_nI, and_self, nI_clamp, fa_lit, pk_mul, nI_add, n10, n1z, n00, eq_self, not_true_eq_false, not_false_eq_true, hQ.1, ph, p_isLoan_n hQ h2], KC.rf, fun _ hR2 hb => ⟨sI M (B + 59) 0 (nI 0), by simp (disch := omega) only [f_X8_atLeast, reduceIte, ↓reduceIte, ↓ck_i, ↓nm_s, ↓bR_i, ↓bd_i, Option.isSome_some, Option.getD_some, gK, gR, gN, gIs, inb_nI, and_self, nI_clamp, fa_lit, pk_mul, nI_add, n10, n1z, n00, eq_self, not_true_eq_false, not_false_eq_true, hR.1, hR2.1, q_isHolder_y hR2 hh, q_isLoan_n hR2 h2], KR.th (by omega) (by omega), hb⟩⟩
  have pl := p_isLoan_y hQ hl
  have wl := (hR.2.2.2.1.2.2 l hl).2.1
  have wy := (hR.2.2.2.1.2.2 l hl).2.2.2.2.2.2.1
  rcases ixL z (n := 60 + 1) (by omega) with h3 | ⟨j, hj, rfl⟩
  · rcases id h3 with h4 | ⟨h4, h5⟩
    · exact ⟨-1, M, by simp (disch := omega) only [f_X7_atLeast, reduceIte, ↓reduceIte, ↓ck_i, ↓nm_s, ↓bR_i, ↓bd_i, Option.isSome_some, Option.getD_some, gK, gR, gN, gIs, inb_nI, and_self, nI_clamp, fa_lit, pk_mul, nI_add, n10, n1z, n00, eq_self, not_true_eq_false, not_false_eq_true, hQ.1, ph, pl, h4], KC.rf, fun _ hR2 hb => ⟨sI M (B + 59) 0 (nI 0), by simp (disch := omega) only [f_X8_atLeast, reduceIte, ↓reduceIte, ↓ck_i, ↓nm_s, ↓bR_i, ↓bd_i, Option.isSome_some, Option.getD_some, gK, gR, gN, gIs, inb_nI, and_self, nI_clamp, fa_lit, pk_mul, nI_add, n10, n1z, n00, eq_self, not_true_eq_false, not_false_eq_true, hR.1, hR2.1, q_isHolder_y hR2 hh, q_isLoan_y hR2 hl, fa_litL, wi_n (n := 60) (by omega) h3], KR.th (by omega) (by omega), hb⟩⟩
    · have h6 : nI 60 < z := by
        rw [fa_lt, nI_toInt (by omega)]; rw [fa_le, nI_toInt (by omega)] at h5; omega
      exact ⟨-1, M, by simp (disch := omega) only [f_X7_atLeast, reduceIte, ↓reduceIte, ↓ck_i, ↓nm_s, ↓bR_i, ↓bd_i, Option.isSome_some, Option.getD_some, gK, gR, gN, gIs, inb_nI, and_self, nI_clamp, fa_lit, pk_mul, nI_add, n10, n1z, n00, eq_self, not_true_eq_false, not_false_eq_true, hQ.1, ph, pl, h4, h6], KC.rf, fun _ hR2 hb => ⟨sI M (B + 59) 0 (nI 0), by simp (disch := omega) only [f_X8_atLeast, reduceIte, ↓reduceIte, ↓ck_i, ↓nm_s, ↓bR_i, ↓bd_i, Option.isSome_some, Option.getD_some, gK, gR, gN, gIs, inb_nI, and_self, nI_clamp, fa_lit, pk_mul, nI_add, n10, n1z, n00, eq_self, not_true_eq_false, not_false_eq_true, hR.1, hR2.1, q_isHolder_y hR2 hh, q_isLoan_y hR2 hl, fa_litL, wi_n (n := 60) (by omega) h3], KR.th (by omega) (by omega), hb⟩⟩
  have b1 : ¬ j < 0 := by omega
  have b2 : ¬ 60 < j := by omega
  have io := p_isOver hQ hl
  by_cases hy : S 1206 < T (12 + 7 * l + 3)
  · rw [if_pos hy] at io
    obtain ⟨N, eN, n1, n2, n3⟩ := p_foresee hQ ht hl
    have hQN := n1.cq hQ ht
    have dy := (n3.yr (y := S 1206 + 1) (by omega) (by omega)).2.2.1
    have s0 := hQN.2.2.2.2.2.2.1.1
    have hv := vD_le (oy := 0) (op := 0) hR.2.2.2.1 hR.2.2.2.2.1 (by omega) hl (m := 0) (by omega) (y := S 1206 + 1) (by omega) (by omega)
    rw [vS_0] at hv
    have pc := p_countHeld hQN hl (st := 0) (h := h) (by omega) (by omega)
    have ow := ow_le (T := T) (S := S) (l := l) (h := h)
    generalize how : fb_ct (fun k => decide (S (60 * l + k) = 0) && decide (S (240 + 60 * l + k) = h + 1)) (T (12 + 7 * l)) = w at *
    generalize hdu : vD T S l 0 0 0 (S 1206 + 1) = du at *
    have al := aS_le (al := ctS T S l 0) (ow := w) (du := du) hv.2 ow (d := w + 1 - j) (k := j)
    have al2 : (w + 1 - j) * 118264581564861424 ≤ 61 * 118264581564861424 := Nat.mul_le_mul_right _ (by omega)
    have bp := bn_pos (n := ctS T S l 0) (k := du) (by omega)
    have bl := bn_le (ctS T S l 0) du (by omega)
    have t1 := p_tell (B := B) (x := 0 + aS (ctS T S l 0) w du (w + 1 - j) j) (y := bn (ctS T S l 0) du) (M := N) hQN.1.1 (by omega) bp (by omega)
    have lp := p_at_lp hQN.1 hv.2 ow (by omega) n2.1.2.2.2.2.2.2.2.2 (w + 1 - j) j FU 0 (by omega) (by omega) (by unfold FU; omega) t1 rfl
    have e1 : f_X7_atLeast B (nI h) (nI l) (nI j) M = f_X7_atLeast_95 FU B (nI du) (nI w) (lN 0) (nI j) N := by
      simp (disch := omega) only [f_X7_atLeast, reduceIte, ↓reduceIte, ↓ck_i, ↓nm_s, ↓bR_i, ↓bd_i, Option.isSome_some, Option.getD_some, gK, gR, gN, gIs, inb_nI, and_self, nI_clamp, fa_lit, pk_mul, nI_add, n10, n1z, n00, eq_self, not_true_eq_false, not_false_eq_true, hQ.1, hQ.2.1, hQN.1, hQN.2.1, hQN.2.2.2.1, ph, pl, nI_ltI, b1, b2, io, eN, s0, dy, pc, fa_litL]
    rw [lp] at e1
    refine ⟨_, _, e1, fr_c n1, fun hRN hR2 hb => ?_⟩
    obtain ⟨P, eP, p1, p2⟩ := q_tells0 hR2 hl
    have hRP := p1.rq hR2
    have hRP2 := hRP.th (j := 0) (v := nI 0)
    have qm := q_howMany hRP hl (st := 0) (by omega)
    have qh := q_held hRP hl hh (st := 0) (by omega)
    rw [how] at qh
    have qd := (p2.yr (y := S 1206 + 1) (by omega) (by omega)).2.2.1
    rw [hdu] at qd
    have qd2 : (sI P (B + 59) 0 (nI 0)).1 (B + 68) (6 * (S 1206 + 1) + 2) = nI du := by rw [sI_ne (by omega)]; exact qd
    have r6 := hR2.2.2.1 1206 (by omega)
    have r7 := hRP2.2.2.1 1206 (by omega)
    have l3 := q_loanOf hR2 hl (w := 3) (by omega)
    have t2 := q_least (B := B) (x := 0 + aS (ctS T S l 0) w du (w + 1 - j) j) (y := bn (ctS T S l 0) du) (M := sI P (B + 59) 0 (nI 0)) hRP2.1.1 (by omega) bp (by omega)
    have lq := q_at_lp (B := B) (M := sI P (B + 59) 0 (nI 0)) hRP2.1.1 hv.2 ow (show du ≤ ctS T S l 0 by omega) (w + 1 - j) j FU 0 (by omega) (by omega) (by unfold FU; omega) t2 rfl
    refine ⟨_, ?_, fr_r (((KR.th (j := 0) (v := nI 0) (by omega) (by omega)).tr p1.r).tr (KR.th (j := 0) (v := nI 0) (by omega) (by omega))), fr_b (N := N) (by rw [sI_r, p1.1, sI_r])⟩
    rw [← lq]
    simp (disch := omega) only [f_X8_atLeast, reduceIte, ↓reduceIte, ↓ck_i, ↓nm_s, ↓bR_i, ↓bd_i, Option.isSome_some, Option.getD_some, gK, gR, gN, gIs, inb_nI, and_self, nI_clamp, fa_lit, pk_mul, nI_add, n10, n1z, n00, eq_self, not_true_eq_false, not_false_eq_true, hRN.1, hR2.1, hRP.1, hRP2.1, q_isHolder_y hR2 hh, q_isLoan_y hR2 hl, fa_litL, wi_y (n := 60), r6, l3, nI_ltI, hy, eP, qm, qh, r7, qd2]
  · rw [if_neg hy] at io
    have r6 := (hR.th (j := 0) (v := nI 0)).2.2.1 1206 (by omega)
    have l3 := q_loanOf (hR.th (j := 0) (v := nI 0)) hl (w := 3) (by omega)
    exact ⟨-1, M, by simp (disch := omega) only [f_X7_atLeast, reduceIte, ↓reduceIte, ↓ck_i, ↓nm_s, ↓bR_i, ↓bd_i, Option.isSome_some, Option.getD_some, gK, gR, gN, gIs, inb_nI, and_self, nI_clamp, fa_lit, pk_mul, nI_add, n10, n1z, n00, eq_self, not_true_eq_false, not_false_eq_true, hQ.1, ph, pl, nI_ltI, b1, b2, io], KC.rf, fun _ hR2 hb => ⟨sI M (B + 59) 0 (nI 0), by simp (disch := omega) only [f_X8_atLeast, reduceIte, ↓reduceIte, ↓ck_i, ↓nm_s, ↓bR_i, ↓bd_i, Option.isSome_some, Option.getD_some, gK, gR, gN, gIs, inb_nI, and_self, nI_clamp, fa_lit, pk_mul, nI_add, n10, n1z, n00, eq_self, not_true_eq_false, not_false_eq_true, hR.1, hR2.1, q_isHolder_y hR2 hh, q_isLoan_y hR2 hl, fa_litL, wi_y (n := 60), r6, l3, nI_ltI, hy], KR.th (by omega) (by omega), hb⟩⟩
theorem q_last_go (hR : RQ B M T S c) (hl : l < T 0) (hA : QR B M T S l 0 0 0) {ow : Nat} {R : Option (Int64 × Mm)} (hfin : (bd (f_X8_choose (nI (ctS T S l 0) - nI ow) (nI (ctS T S l 0 - vS T S l 0 0 0 (T (12 + 7 * l + 3)))) M) fun v4 M3 => bd (f_X8_choose (nI (ctS T S l 0)) (nI (ctS T S l 0 - vS T S l 0 0 0 (T (12 + 7 * l + 3)))) M3) fun v6 M5 => ck (gK M5 (B + 59) = 8) (bd (f_X8_least (B + 59) v4 v6 M5) fun v8 M7 => some (v8, M7))) = R) : ∀ (d y n : Nat), y + d = T (12 + 7 * l + 3) → S 1206 < y → d < n → f_X8_lasting_86 n (B + 59) (nI l) (nI ow) (nI (ctS T S l 0)) (nI (ctS T S l 0 - vS T S l 0 0 0 y)) (nI y) M = R := by
  have hW := hR.2.2.2.1
  have hw := hR.2.2.2.2.1
  have w := (hW.2.2 l hl).2.2.2.2.2.2.1
  have y60 := hw.1
  have cx : ctS T S l 0 ≤ 60 := Nat.le_trans (fb_ct_le _ _) (hW.2.2 l hl).2.1
  have l3 := q_loanOf hR hl (w := 3) (by omega)
  intro d
  induction d with
  | zero =>
    intro y n hd hy hn
    obtain ⟨n, rfl⟩ : ∃ m, n = m + 1 := ⟨n - 1, by omega⟩
    have hy2 : y = T (12 + 7 * l + 3) := by omega
    subst hy2
    rw [← hfin]
    have e : T (12 + 7 * l + 3) ≤ T (12 + 7 * l + 3) := Nat.le_refl _
    unfold f_X8_lasting_86
    rw [ck_t (show gK M (B + 59) = 8 from hR.1.1), show (3 : Int32) = nI 3 from rfl, l3, bd_s, if_pos (by rw [nI_leI (by omega) (by omega)]; exact e)]
  | succ d ih =>
    intro y n hd hy hn
    obtain ⟨n, rfl⟩ : ∃ m, n = m + 1 := ⟨n - 1, by omega⟩
    have ih := ih (y + 1) n (by omega) (by omega) (by omega)
    have e : ¬ T (12 + 7 * l + 3) ≤ y := by omega
    have a2 := (hA.yr hy (by omega)).2.2.1
    have pl := vD_le (oy := 0) (op := 0) hW hw hR.2.2.2.2.2 hl (m := 0) (by omega) (y := y) hy (by omega)
    have mo := vS_mono hW hw hR.2.2.2.2.2 hl (y - (S 1206 + 1)) (by omega)
    rw [show S 1206 + 1 + (y - (S 1206 + 1)) = y by omega] at mo
    have e2 : ctS T S l 0 - vS T S l 0 0 0 y + vD T S l 0 0 0 y = ctS T S l 0 - vS T S l 0 0 0 (y + 1) := by rw [vS_next hy]; omega
    rw [← ih]
    simp (disch := omega) only [f_X8_lasting_86, reduceIte, ↓reduceIte, ↓ck_i, ↓nm_s, ↓bR_i, ↓bd_i, Option.isSome_some, Option.getD_some, gK, gR, gN, gIs, inb_nI, and_self, nI_clamp, fa_lit, pk_mul, nI_add, n10, n1z, n00, eq_self, not_true_eq_false, not_false_eq_true, hR.1, l3, nI_leI, e, a2, e2]
theorem pr_lasting (hcc : c + 1 ≤ 600) : Pr B c (f_X7_lasting B x y) (f_X8_lasting (B + 59) x y) := by
  refine pr_q hcc (fun M t T S hQ hR ht => ?_)
  have w0 := hR.2.2.2.1.1
  have w1 := hR.2.2.2.1.2.1
  have y60 := hR.2.2.2.2.1.1
  rcases ixL x (n := T 1) (by omega) with h | ⟨h, hh, rfl⟩
  · exact ⟨-1, M, by simp (disch := omega) only [f_X7_lasting, reduceIte, ↓reduceIte, ↓ck_i, ↓nm_s, ↓bR_i, ↓bd_i, Option.isSome_some, Option.getD_some, gK, gR, gN, gIs, inb_nI, and_self, nI_clamp, fa_lit, pk_mul, nI_add, n10, n1z, n00, eq_self, not_true_eq_false, not_false_eq_true, hQ.1, p_isHolder_n hQ h], KC.rf, fun _ hR2 hb => ⟨sI M (B + 59) 0 (nI 0), by simp (disch := omega) only [f_X8_lasting, reduceIte, ↓reduceIte, ↓ck_i, ↓nm_s, ↓bR_i, ↓bd_i, Option.isSome_some, Option.getD_some, gK, gR, gN, gIs, inb_nI, and_self, nI_clamp, fa_lit, pk_mul, nI_add, n10, n1z, n00, eq_self, not_true_eq_false, not_false_eq_true, hR.1, hR2.1, q_isHolder_n hR2 h], KR.th (by omega) (by omega), hb⟩⟩
  have ph := p_isHolder_y hQ hh
  rcases ixL y (n := T 0) (by omega) with h2 | ⟨l, hl, rfl⟩
  · exact ⟨-1, M, by simp (disch := omega) only [f_X7_lasting, reduceIte, ↓reduceIte, ↓ck_i, ↓nm_s, ↓bR_i, ↓bd_i, Option.isSome_some, Option.getD_some, gK, gR, gN, gIs, inb_nI, and_self, nI_clamp, fa_lit, pk_mul, nI_add, n10, n1z, n00, eq_self, not_true_eq_false, not_false_eq_true, hQ.1, ph, p_isLoan_n hQ h2], KC.rf, fun _ hR2 hb => ⟨sI M (B + 59) 0 (nI 0), by simp (disch := omega) only [f_X8_lasting, reduceIte, ↓reduceIte, ↓ck_i, ↓nm_s, ↓bR_i, ↓bd_i, Option.isSome_some, Option.getD_some, gK, gR, gN, gIs, inb_nI, and_self, nI_clamp, fa_lit, pk_mul, nI_add, n10, n1z, n00, eq_self, not_true_eq_false, not_false_eq_true, hR.1, hR2.1, q_isHolder_y hR2 hh, q_isLoan_n hR2 h2], KR.th (by omega) (by omega), hb⟩⟩
  have pl := p_isLoan_y hQ hl
  have wl := (hR.2.2.2.1.2.2 l hl).2.1
  have wy := (hR.2.2.2.1.2.2 l hl).2.2.2.2.2.2.1
  have io := p_isOver hQ hl
  by_cases hy : S 1206 < T (12 + 7 * l + 3)
  · rw [if_pos hy] at io
    have pc := p_countHeld hQ hl (st := 0) (h := h) (by omega) (by omega)
    have ow := ow_le (T := T) (S := S) (l := l) (h := h)
    have cx : ctS T S l 0 ≤ 60 := Nat.le_trans (fb_ct_le _ _) wl
    have qh0 : ∀ {M : Mm}, RQ B M T S c → f_X8_held (B + 59) (nI h) (nI l) (nI 0) M = some (nI (fb_ct (fun k => decide (S (60 * l + k) = 0) && decide (S (240 + 60 * l + k) = h + 1)) (T (12 + 7 * l))), sI M (B + 59) 0 (nI 0)) := fun hr => q_held hr hl hh (by omega)
    generalize how : fb_ct (fun k => decide (S (60 * l + k) = 0) && decide (S (240 + 60 * l + k) = h + 1)) (T (12 + 7 * l)) = w at *
    by_cases h0 : w = 0
    · subst h0
      refine ⟨-1, M, by simp (disch := omega) only [f_X7_lasting, reduceIte, ↓reduceIte, ↓ck_i, ↓nm_s, ↓bR_i, ↓bd_i, Option.isSome_some, Option.getD_some, gK, gR, gN, gIs, inb_nI, and_self, nI_clamp, fa_lit, pk_mul, nI_add, n10, n1z, n00, eq_self, not_true_eq_false, not_false_eq_true, hQ.1, hQ.2.1, hQ.2.2.2.1, ph, pl, io, pc], KC.rf, fun _ hR2 hb => ⟨sI (sI M (B + 59) 0 (nI 0)) (B + 59) 0 (nI 0), ?_, (KR.th (by omega) (by omega)).tr (KR.th (by omega) (by omega)), hb⟩⟩
      have r6 := hR2.2.2.1 1206 (by omega)
      have l3 := q_loanOf hR2 hl (w := 3) (by omega)
      simp (disch := omega) only [f_X8_lasting, reduceIte, ↓reduceIte, ↓ck_i, ↓nm_s, ↓bR_i, ↓bd_i, Option.isSome_some, Option.getD_some, gK, gR, gN, gIs, inb_nI, and_self, nI_clamp, fa_lit, pk_mul, nI_add, n10, n1z, n00, eq_self, not_true_eq_false, not_false_eq_true, hR.1, hR2.1, q_isHolder_y hR2 hh, q_isLoan_y hR2 hl, r6, l3, nI_ltI, hy, qh0 hR2]
    · obtain ⟨N, eN, n1, n2, n3⟩ := p_foresee hQ ht hl
      have hQN := n1.cq hQ ht
      have sy := (n3.yr (y := T (12 + 7 * l + 3)) hy (Nat.le_refl _)).1
      have mo := vS_mono hR.2.2.2.1 hR.2.2.2.2.1 (by omega) hl (T (12 + 7 * l + 3) - (S 1206 + 1)) (by omega)
      rw [show S 1206 + 1 + (T (12 + 7 * l + 3) - (S 1206 + 1)) = T (12 + 7 * l + 3) by omega] at mo
      have bp := bn_pos (n := ctS T S l 0) (k := ctS T S l 0 - vS T S l 0 0 0 (T (12 + 7 * l + 3))) (by omega)
      have bl := bn_le (ctS T S l 0) (ctS T S l 0 - vS T S l 0 0 0 (T (12 + 7 * l + 3))) (by omega)
      have bl2 := bn_le (ctS T S l 0 - w) (ctS T S l 0 - vS T S l 0 0 0 (T (12 + 7 * l + 3))) (by omega)
      have t1 := p_tell (B := B) (x := bn (ctS T S l 0 - w) (ctS T S l 0 - vS T S l 0 0 0 (T (12 + 7 * l + 3)))) (y := bn (ctS T S l 0) (ctS T S l 0 - vS T S l 0 0 0 (T (12 + 7 * l + 3)))) (M := N) hQN.1.1 (by omega) bp (by omega)
      have c1 := p_ch (M := N) (n := ctS T S l 0 - w) (k := ctS T S l 0 - vS T S l 0 0 0 (T (12 + 7 * l + 3))) (by omega) (by omega)
      have c2 := p_ch (M := N) (n := ctS T S l 0) (k := ctS T S l 0 - vS T S l 0 0 0 (T (12 + 7 * l + 3))) (by omega) (by omega)
      have e1 : f_X7_lasting B (nI h) (nI l) M = f_X7_tell B (lN (bn (ctS T S l 0 - w) (ctS T S l 0 - vS T S l 0 0 0 (T (12 + 7 * l + 3))))) (lN (bn (ctS T S l 0) (ctS T S l 0 - vS T S l 0 0 0 (T (12 + 7 * l + 3))))) N := by
        rw [t1]
        simp (disch := omega) only [f_X7_lasting, reduceIte, ↓reduceIte, ↓ck_i, ↓nm_s, ↓bR_i, ↓bd_i, Option.isSome_some, Option.getD_some, gK, gR, gN, gIs, inb_nI, and_self, nI_clamp, fa_lit, pk_mul, nI_add, n10, n1z, n00, eq_self, not_true_eq_false, not_false_eq_true, hQ.1, hQ.2.1, hQ.2.2.2.1, hQN.1, ph, pl, io, pc, nI_eq, h0, eN, n2.1, sy, pk_sub, c1, c2, t1]
      rw [t1] at e1
      refine ⟨_, _, e1, fr_c n1, fun hRN hR2 hb => ?_⟩
      have hR3 := hR2.th (j := 0) (v := nI 0)
      obtain ⟨P, eP, p1, p2⟩ := q_tells0 hR3 hl
      have hRP := p1.rq hR3
      have qm := q_howMany hRP hl (st := 0) (by omega)
      have r6 := hR2.2.2.1 1206 (by omega)
      have r7 := hRP.2.2.1 1206 (by omega)
      have l3 := q_loanOf hR2 hl (w := 3) (by omega)
      have t2 := q_least (B := B) (x := bn (ctS T S l 0 - w) (ctS T S l 0 - vS T S l 0 0 0 (T (12 + 7 * l + 3)))) (y := bn (ctS T S l 0) (ctS T S l 0 - vS T S l 0 0 0 (T (12 + 7 * l + 3)))) (M := P) hRP.1.1 (by omega) bp (by omega)
      have d1 := q_ch (M := P) (n := ctS T S l 0 - w) (k := ctS T S l 0 - vS T S l 0 0 0 (T (12 + 7 * l + 3))) (by omega) (by omega)
      have d2 := q_ch (M := P) (n := ctS T S l 0) (k := ctS T S l 0 - vS T S l 0 0 0 (T (12 + 7 * l + 3))) (by omega) (by omega)
      have hf : (bd (f_X8_choose (nI (ctS T S l 0) - nI w) (nI (ctS T S l 0 - vS T S l 0 0 0 (T (12 + 7 * l + 3)))) P) fun v4 M3 => bd (f_X8_choose (nI (ctS T S l 0)) (nI (ctS T S l 0 - vS T S l 0 0 0 (T (12 + 7 * l + 3)))) M3) fun v6 M5 => ck (gK M5 (B + 59) = 8) (bd (f_X8_least (B + 59) v4 v6 M5) fun v8 M7 => some (v8, M7))) = f_X8_least (B + 59) (lN (bn (ctS T S l 0 - w) (ctS T S l 0 - vS T S l 0 0 0 (T (12 + 7 * l + 3))))) (lN (bn (ctS T S l 0) (ctS T S l 0 - vS T S l 0 0 0 (T (12 + 7 * l + 3))))) P := by
        rw [pk_sub (by omega), d1, bd_s, d2, bd_s, ck_t (show gK P (B + 59) = 8 from hRP.1.1), t2, bd_s]
      rw [t2] at hf
      have lq := q_last_go hRP hl p2 hf (T (12 + 7 * l + 3) - (S 1206 + 1)) (S 1206 + 1) FU (by omega) (by omega) (by unfold FU; omega)
      rw [vS_0, Nat.sub_self] at lq
      refine ⟨_, ?_, fr_r (((KR.th (j := 0) (v := nI 0) (by omega) (by omega)).tr (KR.th (j := 0) (v := nI 0) (by omega) (by omega))).tr p1.r), fr_b (N := N) (by rw [p1.1, sI_r, sI_r])⟩
      rw [← lq]
      simp (disch := omega) only [f_X8_lasting, reduceIte, ↓reduceIte, ↓ck_i, ↓nm_s, ↓bR_i, ↓bd_i, Option.isSome_some, Option.getD_some, gK, gR, gN, gIs, inb_nI, and_self, nI_clamp, fa_lit, pk_mul, nI_add, n10, n1z, n00, eq_self, not_true_eq_false, not_false_eq_true, hRN.1, hR2.1, hR3.1, hRP.1, q_isHolder_y hR2 hh, q_isLoan_y hR2 hl, r6, l3, nI_ltI, hy, qh0 hR2, nI_eq, h0, eP, qm, r7]
  · rw [if_neg hy] at io
    have r6 := (hR.th (j := 0) (v := nI 0)).2.2.1 1206 (by omega)
    have l3 := q_loanOf (hR.th (j := 0) (v := nI 0)) hl (w := 3) (by omega)
    exact ⟨-1, M, by simp (disch := omega) only [f_X7_lasting, reduceIte, ↓reduceIte, ↓ck_i, ↓nm_s, ↓bR_i, ↓bd_i, Option.isSome_some, Option.getD_some, gK, gR, gN, gIs, inb_nI, and_self, nI_clamp, fa_lit, pk_mul, nI_add, n10, n1z, n00, eq_self, not_true_eq_false, not_false_eq_true, hQ.1, ph, pl, io], KC.rf, fun _ hR2 hb => ⟨sI M (B + 59) 0 (nI 0), by simp (disch := omega) only [f_X8_lasting, reduceIte, ↓reduceIte, ↓ck_i, ↓nm_s, ↓bR_i, ↓bd_i, Option.isSome_some, Option.getD_some, gK, gR, gN, gIs, inb_nI, and_self, nI_clamp, fa_lit, pk_mul, nI_add, n10, n1z, n00, eq_self, not_true_eq_false, not_false_eq_true, hR.1, hR2.1, q_isHolder_y hR2 hh, q_isLoan_y hR2 hl, r6, l3, nI_ltI, hy], KR.th (by omega) (by omega), hb⟩⟩
end AT
