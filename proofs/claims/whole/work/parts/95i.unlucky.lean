def cfS (T S : Nat → Nat) (o h : Nat) : Bool := decide (uR T S o ≠ 0) && (decide (uY T S h * uR T S o < uY T S o * uR T S h) || (decide (uY T S o * uR T S h = uY T S h * uR T S o) && decide (o < h)))
def plS (T S : Nat → Nat) (h : Nat) : Nat := fb_ct (fun o => cfS T S o h) (T 1)
def unS (T S : Nat → Nat) (i : Int32) : Nat → Nat → Nat → Int32
  | 0, _, w => if i = -nI 1 then nI w else -nI 2
  | d + 1, h, w => if uR T S h = 0 then unS T S i d (h + 1) w else if nI (plS T S h) = i then nI h else unS T S i d (h + 1) (w + 1)
section UNL
variable {B t c l : Nat} {T S : Nat → Nat} {M N P : Mm} {x y : Int32}
theorem LK.at {h : Nat} (hL : LK B M T S (T 0) 0) (hh : h < 6) : M.1 (B + 57) h = nI (uY T S h) ∧ M.1 (B + 58) h = nI (uR T S h) := hL h hh
theorem p_first (hC : CmD B M.2.2) (hL : LK B M T S (T 0) 0) (hu : ∀ h, uY T S h ≤ 14400 ∧ uR T S h ≤ 240) {o h : Nat} (ho : o < 6) (hh : h < 6) (hr : uR T S o ≠ 0) : f_X2_comesFirst (B + 56) (nI o) (nI h) M = some (if cfS T S o h = true then nI 1 else nI 0, M) := by
  obtain ⟨a1, a2⟩ := hL.at ho
  obtain ⟨b1, b2⟩ := hL.at hh
  have u1 := hu o
  have u2 := hu h
  have m1 : uY T S o * uR T S h ≤ 14400 * 240 := Nat.mul_le_mul u1.1 u2.2
  have m2 : uY T S h * uR T S o ≤ 14400 * 240 := Nat.mul_le_mul u2.1 u1.2
  unfold cfS
  by_cases c1 : uY T S h * uR T S o < uY T S o * uR T S h
  · simp (disch := omega) only [f_X2_comesFirst, reduceIte, ↓reduceIte, ↓ck_i, ↓nm_s, ↓bR_i, ↓bd_i, Option.isSome_some, Option.getD_some, gK, gR, gN, gIs, inb_nI, and_self, nI_clamp, fa_lit, pk_mul, nI_add, n10, n1z, n00, eq_self, not_true_eq_false, not_false_eq_true, hC.a, a1, a2, b1, b2, nI_ltI, c1, hr, ne_eq, decide_true, Bool.true_and, Bool.true_or]
  · by_cases c2 : uY T S o * uR T S h = uY T S h * uR T S o
    · by_cases c3 : h ≤ o
      · have c4 : ¬ o < h := by omega
        simp (disch := omega) only [f_X2_comesFirst, reduceIte, ↓reduceIte, ↓ck_i, ↓nm_s, ↓bR_i, ↓bd_i, Option.isSome_some, Option.getD_some, gK, gR, gN, gIs, inb_nI, and_self, nI_clamp, fa_lit, pk_mul, nI_add, n10, n1z, n00, eq_self, not_true_eq_false, not_false_eq_true, hC.a, a1, a2, b1, b2, nI_ltI, nI_leI, c2, Nat.lt_irrefl, c3, c4, hr, ne_eq, decide_true, decide_false, Bool.true_and, Bool.false_or, Bool.and_false, Bool.false_eq_true]
      · have c4 : o < h := by omega
        simp (disch := omega) only [f_X2_comesFirst, reduceIte, ↓reduceIte, ↓ck_i, ↓nm_s, ↓bR_i, ↓bd_i, Option.isSome_some, Option.getD_some, gK, gR, gN, gIs, inb_nI, and_self, nI_clamp, fa_lit, pk_mul, nI_add, n10, n1z, n00, eq_self, not_true_eq_false, not_false_eq_true, hC.a, a1, a2, b1, b2, nI_ltI, nI_leI, c2, Nat.lt_irrefl, c3, c4, hr, ne_eq, decide_true, decide_false, Bool.true_and, Bool.false_or, Bool.and_true]
    · simp (disch := omega) only [f_X2_comesFirst, reduceIte, ↓reduceIte, ↓ck_i, ↓nm_s, ↓bR_i, ↓bd_i, Option.isSome_some, Option.getD_some, gK, gR, gN, gIs, inb_nI, and_self, nI_clamp, fa_lit, pk_mul, nI_add, n10, n1z, n00, eq_self, not_true_eq_false, not_false_eq_true, hC.a, a1, a2, b1, b2, nI_ltI, nI_eq, c1, c2, hr, ne_eq, decide_true, decide_false, Bool.true_and, Bool.false_or, Bool.false_and, Bool.false_eq_true]
theorem p_place_lp (hC : CmD B M.2.2) (hL : LK B M T S (T 0) 0) (hu : ∀ h, uY T S h ≤ 14400 ∧ uR T S h ≤ 240) (h6 : T 1 ≤ 6) {h : Nat} (hh : h < 6) : ∀ (d o n : Nat), o + d = T 1 → d < n → f_X2_placeOf_5 n (B + 56) (nI h) (nI (T 1)) (nI (fb_ct (fun o => cfS T S o h) o)) (nI o) M = some (nI (plS T S h), M) := by
  intro d
  induction d with
  | zero =>
    intro o n ho hn
    obtain ⟨n, rfl⟩ : ∃ q, n = q + 1 := ⟨n - 1, by omega⟩
    have ho : o = T 1 := by omega
    subst ho
    simp (disch := omega) only [f_X2_placeOf_5, reduceIte, ↓reduceIte, ↓ck_i, ↓nm_s, ↓bR_i, ↓bd_i, Option.isSome_some, Option.getD_some, gK, gR, gN, gIs, inb_nI, and_self, nI_clamp, fa_lit, pk_mul, nI_add, n10, n1z, n00, eq_self, not_true_eq_false, not_false_eq_true, nI_leI, Nat.le_refl, plS]
  | succ d ih =>
    intro o n ho hn
    obtain ⟨n, rfl⟩ : ∃ q, n = q + 1 := ⟨n - 1, by omega⟩
    have ih := ih (o + 1) n (by omega) (by omega)
    rw [fb_ct_succ] at ih
    have e : ¬ T 1 ≤ o := by omega
    obtain ⟨a1, a2⟩ := hL.at (h := o) (by omega)
    have u1 := hu o
    by_cases hr : uR T S o = 0
    · have cf : cfS T S o h = false := by unfold cfS; rw [decide_eq_false (by simp [hr])]; rfl
      rw [cf, if_neg (by decide)] at ih
      rw [hr] at a2
      rw [← ih]
      simp (disch := omega) only [f_X2_placeOf_5, reduceIte, ↓reduceIte, ↓ck_i, ↓nm_s, ↓bR_i, ↓bd_i, Option.isSome_some, Option.getD_some, gK, gR, gN, gIs, inb_nI, and_self, nI_clamp, fa_lit, pk_mul, nI_add, n10, n1z, n00, eq_self, not_true_eq_false, not_false_eq_true, nI_leI, e, hC.a, a2, Nat.le_refl, Nat.add_zero]
    · have hr2 : ¬ uR T S o ≤ 0 := by omega
      have pf := p_first hC hL hu (o := o) (h := h) (by omega) hh hr
      rw [← ih]
      by_cases cf : cfS T S o h = true
      · rw [if_pos cf] at pf ⊢
        simp (disch := omega) only [f_X2_placeOf_5, reduceIte, ↓reduceIte, ↓ck_i, ↓nm_s, ↓bR_i, ↓bd_i, Option.isSome_some, Option.getD_some, gK, gR, gN, gIs, inb_nI, and_self, nI_clamp, fa_lit, pk_mul, nI_add, n10, n1z, n00, eq_self, not_true_eq_false, not_false_eq_true, nI_leI, e, hC.a, a2, hr2, pf]
      · rw [if_neg cf] at pf ⊢
        simp (disch := omega) only [f_X2_placeOf_5, reduceIte, ↓reduceIte, ↓ck_i, ↓nm_s, ↓bR_i, ↓bd_i, Option.isSome_some, Option.getD_some, gK, gR, gN, gIs, inb_nI, and_self, nI_clamp, fa_lit, pk_mul, nI_add, n10, n1z, n00, eq_self, not_true_eq_false, not_false_eq_true, nI_leI, e, hC.a, a2, hr2, pf, Nat.add_zero]
theorem p_unl_lp (hQ : CQ B t M T S c) (hL : LK B M T S (T 0) 0) (hu : ∀ h, uY T S h ≤ 14400 ∧ uR T S h ≤ 240) : ∀ (d h w n : Nat), h + d = T 1 → d < n → f_X7_unlucky_27 n B x (nI w) (nI h) M = some (unS T S x d h w, M) := by
  have hC : CmD B M.2.2 := hQ.1
  have w1 := hQ.2.2.2.2.1.2.1
  have c1 := hQ.2.2.2.2.2.1.2.1
  intro d
  induction d with
  | zero =>
    intro h w n hh hn
    obtain ⟨n, rfl⟩ : ∃ q, n = q + 1 := ⟨n - 1, by omega⟩
    have hh : h = T 1 := by omega
    subst hh
    unfold unS
    by_cases hx : x = -nI 1
    · simp (disch := omega) only [f_X7_unlucky_27, reduceIte, ↓reduceIte, ↓ck_i, ↓nm_s, ↓bR_i, ↓bd_i, Option.isSome_some, Option.getD_some, gK, gR, gN, gIs, inb_nI, and_self, nI_clamp, fa_lit, pk_mul, nI_add, n10, n1z, n00, eq_self, not_true_eq_false, not_false_eq_true, hC.a, hQ.2.1, hQ.2.2.1, c1, nI_leI, Nat.le_refl, hx]
    · simp (disch := omega) only [f_X7_unlucky_27, reduceIte, ↓reduceIte, ↓ck_i, ↓nm_s, ↓bR_i, ↓bd_i, Option.isSome_some, Option.getD_some, gK, gR, gN, gIs, inb_nI, and_self, nI_clamp, fa_lit, pk_mul, nI_add, n10, n1z, n00, eq_self, not_true_eq_false, not_false_eq_true, hC.a, hQ.2.1, hQ.2.2.1, c1, nI_leI, Nat.le_refl, hx]
  | succ d ih =>
    intro h w n hh hn
    obtain ⟨n, rfl⟩ : ∃ q, n = q + 1 := ⟨n - 1, by omega⟩
    have e : ¬ T 1 ≤ h := by omega
    obtain ⟨a1, a2⟩ := hL.at (h := h) (by omega)
    have u1 := hu h
    unfold unS
    by_cases hr : uR T S h = 0
    · have ih := ih (h + 1) w n (by omega) (by omega)
      rw [hr] at a2
      rw [if_pos hr, ← ih]
      simp (disch := omega) only [f_X7_unlucky_27, reduceIte, ↓reduceIte, ↓ck_i, ↓nm_s, ↓bR_i, ↓bd_i, Option.isSome_some, Option.getD_some, gK, gR, gN, gIs, inb_nI, and_self, nI_clamp, fa_lit, pk_mul, nI_add, n10, n1z, n00, eq_self, not_true_eq_false, not_false_eq_true, hC.a, hQ.2.1, hQ.2.2.1, c1, nI_leI, e, a2, Nat.le_refl]
    · have hr2 : ¬ uR T S h ≤ 0 := by omega
      have pl := p_place_lp hC hL hu w1 (h := h) (by omega) (T 1) 0 FU (by omega) (by unfold FU; omega)
      have pl2 : f_X2_placeOf (B + 56) (nI h) (nI (T 1)) M = some (nI (plS T S h), M) := pl
      rw [if_neg hr]
      by_cases hx : nI (plS T S h) = x
      · rw [if_pos hx]
        simp (disch := omega) only [f_X7_unlucky_27, reduceIte, ↓reduceIte, ↓ck_i, ↓nm_s, ↓bR_i, ↓bd_i, Option.isSome_some, Option.getD_some, gK, gR, gN, gIs, inb_nI, and_self, nI_clamp, fa_lit, pk_mul, nI_add, n10, n1z, n00, eq_self, not_true_eq_false, not_false_eq_true, hC.a, hQ.2.1, hQ.2.2.1, c1, nI_leI, e, a2, hr2, pl2, hx]
      · have ih := ih (h + 1) (w + 1) n (by omega) (by omega)
        rw [if_neg hx, ← ih]
        simp (disch := omega) only [f_X7_unlucky_27, reduceIte, ↓reduceIte, ↓ck_i, ↓nm_s, ↓bR_i, ↓bd_i, Option.isSome_some, Option.getD_some, gK, gR, gN, gIs, inb_nI, and_self, nI_clamp, fa_lit, pk_mul, nI_add, n10, n1z, n00, eq_self, not_true_eq_false, not_false_eq_true, hC.a, hQ.2.1, hQ.2.2.1, c1, nI_leI, e, a2, hr2, pl2, hx]
theorem q_ahead_lp (hu : ∀ h, uY T S h ≤ 14400 ∧ uR T S h ≤ 240) {h : Nat} (hh : h < T 1) : ∀ (d o n : Nat) (M : Mm), o + d = T 1 → d < n → RQ B M T S c → ∃ N, f_X8_aheadOf_21 n (B + 59) (nI h) (nI (uY T S h)) (nI (uR T S h)) (nI (fb_ct (fun o => cfS T S o h) o)) (nI o) M = some (nI (plS T S h), N) ∧ KA B M N := by
  intro d
  induction d with
  | zero =>
    intro o n M ho hn hR
    obtain ⟨n, rfl⟩ : ∃ q, n = q + 1 := ⟨n - 1, by omega⟩
    have w1 := hR.2.2.2.1.2.1
    have t1 := hR.2.1 1 (by omega)
    have ho : o = T 1 := by omega
    subst ho
    refine ⟨M, ?_, ⟨rfl, fun _ _ => rfl, fun _ _ _ => rfl⟩⟩
    simp (disch := omega) only [f_X8_aheadOf_21, reduceIte, ↓reduceIte, ↓ck_i, ↓nm_s, ↓bR_i, ↓bd_i, Option.isSome_some, Option.getD_some, gK, gR, gN, gIs, inb_nI, and_self, nI_clamp, fa_lit, pk_mul, nI_add, n10, n1z, n00, eq_self, not_true_eq_false, not_false_eq_true, hR.1, t1, nI_leI, Nat.le_refl, plS]
  | succ d ih =>
    intro o n M ho hn hR
    obtain ⟨n, rfl⟩ : ∃ q, n = q + 1 := ⟨n - 1, by omega⟩
    have w1 := hR.2.2.2.1.2.1
    have t1 := hR.2.1 1 (by omega)
    have e : ¬ T 1 ≤ o := by omega
    obtain ⟨N, eN, ⟨a1, a2⟩, n1⟩ := q_adds hR (h := o) (by omega)
    have hRN := n1.rq hR
    obtain ⟨P, eP, p1⟩ := ih (o + 1) n N (by omega) (by omega) hRN
    rw [fb_ct_succ] at eP
    have u1 := hu o
    have u2 := hu h
    have m1 : uY T S o * uR T S h ≤ 14400 * 240 := Nat.mul_le_mul u1.1 u2.2
    have m2 : uY T S h * uR T S o ≤ 14400 * 240 := Nat.mul_le_mul u2.1 u1.2
    refine ⟨P, ?_, n1.tr p1⟩
    rw [← eP]
    by_cases hr : uR T S o = 0
    · have cf : cfS T S o h = false := by unfold cfS; rw [decide_eq_false (by simp [hr])]; rfl
      rw [cf, if_neg (by decide)]
      rw [hr] at a2
      simp (disch := omega) only [f_X8_aheadOf_21, reduceIte, ↓reduceIte, ↓ck_i, ↓nm_s, ↓bR_i, ↓bd_i, Option.isSome_some, Option.getD_some, gK, gR, gN, gIs, inb_nI, and_self, nI_clamp, fa_lit, pk_mul, nI_add, n10, n1z, n00, eq_self, not_true_eq_false, not_false_eq_true, hR.1, hRN.1, t1, nI_leI, e, eN, a2, Nat.le_refl]
    · have hr2 : ¬ uR T S o ≤ 0 := by omega
      have sg1 : (nI 0 < nI (uY T S o * uR T S h) - nI (uY T S h * uR T S o)) ↔ uY T S h * uR T S o < uY T S o * uR T S h := by
        have h0 : (nI 0).toInt = 0 := by decide
        rw [fa_lt, pk_sub_toInt (by omega) (by omega), h0]
        omega
      have sg2 : (nI (uY T S o * uR T S h) - nI (uY T S h * uR T S o) = nI 0) ↔ uY T S o * uR T S h = uY T S h * uR T S o := by
        have h0 : (nI 0).toInt = 0 := by decide
        rw [fa_eq, pk_sub_toInt (by omega) (by omega), h0]
        omega
      unfold cfS
      by_cases c1 : uY T S h * uR T S o < uY T S o * uR T S h
      · have k1 := sg1.mpr c1
        simp (disch := omega) only [f_X8_aheadOf_21, reduceIte, ↓reduceIte, ↓ck_i, ↓nm_s, ↓bR_i, ↓bd_i, Option.isSome_some, Option.getD_some, gK, gR, gN, gIs, inb_nI, and_self, nI_clamp, fa_lit, pk_mul, nI_add, n10, n1z, n00, eq_self, not_true_eq_false, not_false_eq_true, hR.1, hRN.1, t1, nI_leI, e, eN, a1, a2, hr2, k1, hr, ne_eq, decide_true, Bool.true_and, Bool.true_or, c1]
      · have k1 : ¬ nI 0 < nI (uY T S o * uR T S h) - nI (uY T S h * uR T S o) := fun q => c1 (sg1.mp q)
        by_cases c2 : uY T S o * uR T S h = uY T S h * uR T S o
        · have k2 := sg2.mpr c2
          by_cases c3 : h ≤ o
          · have c4 : ¬ o < h := by omega
            have k3 : ¬ nI 0 < nI 0 := by decide
            simp (disch := omega) only [f_X8_aheadOf_21, reduceIte, ↓reduceIte, ↓ck_i, ↓nm_s, ↓bR_i, ↓bd_i, Option.isSome_some, Option.getD_some, gK, gR, gN, gIs, inb_nI, and_self, nI_clamp, fa_lit, pk_mul, nI_add, n10, n1z, n00, eq_self, not_true_eq_false, not_false_eq_true, hR.1, hRN.1, t1, nI_leI, e, eN, a1, a2, hr2, k2, k3, c3]
            rw [c2, decide_eq_false c4, decide_eq_false (Nat.lt_irrefl _)]
            simp only [Bool.and_false, Bool.or_self, Bool.false_eq_true, ite_false]
          · have c4 : o < h := by omega
            have k3 : ¬ nI 0 < nI 0 := by decide
            simp (disch := omega) only [f_X8_aheadOf_21, reduceIte, ↓reduceIte, ↓ck_i, ↓nm_s, ↓bR_i, ↓bd_i, Option.isSome_some, Option.getD_some, gK, gR, gN, gIs, inb_nI, and_self, nI_clamp, fa_lit, pk_mul, nI_add, n10, n1z, n00, eq_self, not_true_eq_false, not_false_eq_true, hR.1, hRN.1, t1, nI_leI, e, eN, a1, a2, hr2, k2, k3, c3]
            rw [c2, decide_eq_true c4, decide_eq_true (rfl : uY T S h * uR T S o = uY T S h * uR T S o), decide_eq_true (show uR T S o ≠ 0 from hr)]
            simp only [Bool.and_true, Bool.or_true, Bool.true_and, ite_true]
        · have k2 : ¬ nI (uY T S o * uR T S h) - nI (uY T S h * uR T S o) = nI 0 := fun q => c2 (sg2.mp q)
          simp (disch := omega) only [f_X8_aheadOf_21, reduceIte, ↓reduceIte, ↓ck_i, ↓nm_s, ↓bR_i, ↓bd_i, Option.isSome_some, Option.getD_some, gK, gR, gN, gIs, inb_nI, and_self, nI_clamp, fa_lit, pk_mul, nI_add, n10, n1z, n00, eq_self, not_true_eq_false, not_false_eq_true, hR.1, hRN.1, t1, nI_leI, e, eN, a1, a2, hr2, k1, k2]
          rw [decide_eq_false c1, decide_eq_false c2]
          simp only [Bool.and_false, Bool.or_self, Bool.false_and, Bool.false_eq_true, ite_false]
theorem q_ahead (hR : RQ B M T S c) (hu : ∀ h, uY T S h ≤ 14400 ∧ uR T S h ≤ 240) {h : Nat} (hh : h < T 1) : ∃ N, f_X8_aheadOf (B + 59) (nI h) M = some (nI (plS T S h), N) ∧ KA B M N := by
  have w1 := hR.2.2.2.1.2.1
  obtain ⟨N, eN, ⟨a1, a2⟩, n1⟩ := q_adds hR hh
  have hRN := n1.rq hR
  obtain ⟨P, eP, p1⟩ := q_ahead_lp (B := B) (c := c) hu hh (T 1) 0 FU N (by omega) (by unfold FU; omega) hRN
  rw [show fb_ct (fun o => cfS T S o h) 0 = 0 from rfl] at eP
  refine ⟨P, ?_, n1.tr p1⟩
  rw [← eP]
  simp (disch := omega) only [f_X8_aheadOf, reduceIte, ↓reduceIte, ↓ck_i, ↓nm_s, ↓bR_i, ↓bd_i, Option.isSome_some, Option.getD_some, gK, gR, gN, gIs, inb_nI, and_self, nI_clamp, fa_lit, pk_mul, nI_add, n10, n1z, n00, eq_self, not_true_eq_false, not_false_eq_true, hR.1, hRN.1, eN, a1, a2]
theorem q_unl_lp (hu : ∀ h, uY T S h ≤ 14400 ∧ uR T S h ≤ 240) : ∀ (d h w n : Nat) (M : Mm), h + d = T 1 → d < n → RQ B M T S c → ∃ N, f_X8_unlucky_9 n (B + 59) x (nI w) (nI h) M = some (unS T S x d h w, N) ∧ KA B M N := by
  intro d
  induction d with
  | zero =>
    intro h w n M hh hn hR
    obtain ⟨n, rfl⟩ : ∃ q, n = q + 1 := ⟨n - 1, by omega⟩
    have w1 := hR.2.2.2.1.2.1
    have t1 := hR.2.1 1 (by omega)
    have hh : h = T 1 := by omega
    subst hh
    refine ⟨M, ?_, ⟨rfl, fun _ _ => rfl, fun _ _ _ => rfl⟩⟩
    unfold unS
    by_cases hx : x = -nI 1
    · simp (disch := omega) only [f_X8_unlucky_9, reduceIte, ↓reduceIte, ↓ck_i, ↓nm_s, ↓bR_i, ↓bd_i, Option.isSome_some, Option.getD_some, gK, gR, gN, gIs, inb_nI, and_self, nI_clamp, fa_lit, pk_mul, nI_add, n10, n1z, n00, eq_self, not_true_eq_false, not_false_eq_true, hR.1, t1, nI_leI, Nat.le_refl, hx]
    · simp (disch := omega) only [f_X8_unlucky_9, reduceIte, ↓reduceIte, ↓ck_i, ↓nm_s, ↓bR_i, ↓bd_i, Option.isSome_some, Option.getD_some, gK, gR, gN, gIs, inb_nI, and_self, nI_clamp, fa_lit, pk_mul, nI_add, n10, n1z, n00, eq_self, not_true_eq_false, not_false_eq_true, hR.1, t1, nI_leI, Nat.le_refl, hx]
  | succ d ih =>
    intro h w n M hh hn hR
    obtain ⟨n, rfl⟩ : ∃ q, n = q + 1 := ⟨n - 1, by omega⟩
    have w1 := hR.2.2.2.1.2.1
    have t1 := hR.2.1 1 (by omega)
    have e : ¬ T 1 ≤ h := by omega
    obtain ⟨N, eN, ⟨a1, a2⟩, n1⟩ := q_adds hR (h := h) (by omega)
    have hRN := n1.rq hR
    have u1 := hu h
    unfold unS
    by_cases hr : uR T S h = 0
    · obtain ⟨P, eP, p1⟩ := ih (h + 1) w n N (by omega) (by omega) hRN
      refine ⟨P, ?_, n1.tr p1⟩
      rw [hr] at a2
      rw [if_pos hr, ← eP]
      simp (disch := omega) only [f_X8_unlucky_9, reduceIte, ↓reduceIte, ↓ck_i, ↓nm_s, ↓bR_i, ↓bd_i, Option.isSome_some, Option.getD_some, gK, gR, gN, gIs, inb_nI, and_self, nI_clamp, fa_lit, pk_mul, nI_add, n10, n1z, n00, eq_self, not_true_eq_false, not_false_eq_true, hR.1, hRN.1, t1, nI_leI, e, eN, a2, Nat.le_refl]
    · have hr2 : ¬ uR T S h ≤ 0 := by omega
      have ple : plS T S h ≤ 6 := Nat.le_trans (fb_ct_le _ _) w1
      rw [if_neg hr]
      by_cases x0 : x < nI 0
      · have hx : ¬ nI (plS T S h) = x := fun q => by
          rw [← q, nI_ltI (by omega) (by omega)] at x0; omega
        obtain ⟨P, eP, p1⟩ := ih (h + 1) (w + 1) n N (by omega) (by omega) hRN
        refine ⟨P, ?_, n1.tr p1⟩
        rw [if_neg hx, ← eP]
        simp (disch := omega) only [f_X8_unlucky_9, reduceIte, ↓reduceIte, ↓ck_i, ↓nm_s, ↓bR_i, ↓bd_i, Option.isSome_some, Option.getD_some, gK, gR, gN, gIs, inb_nI, and_self, nI_clamp, fa_lit, pk_mul, nI_add, n10, n1z, n00, eq_self, not_true_eq_false, not_false_eq_true, hR.1, hRN.1, t1, nI_leI, e, eN, a2, hr2, x0]
      · obtain ⟨N2, eN2, m1⟩ := q_ahead hRN hu (h := h) (by omega)
        have hRN2 := m1.rq hRN
        by_cases hx : nI (plS T S h) = x
        · refine ⟨N2, ?_, n1.tr m1⟩
          rw [if_pos hx]
          simp (disch := omega) only [f_X8_unlucky_9, reduceIte, ↓reduceIte, ↓ck_i, ↓nm_s, ↓bR_i, ↓bd_i, Option.isSome_some, Option.getD_some, gK, gR, gN, gIs, inb_nI, and_self, nI_clamp, fa_lit, pk_mul, nI_add, n10, n1z, n00, eq_self, not_true_eq_false, not_false_eq_true, hR.1, hRN.1, t1, nI_leI, e, eN, a2, hr2, x0, eN2, hx]
        · obtain ⟨P, eP, p1⟩ := ih (h + 1) (w + 1) n N2 (by omega) (by omega) hRN2
          refine ⟨P, ?_, (n1.tr m1).tr p1⟩
          rw [if_neg hx, ← eP]
          simp (disch := omega) only [f_X8_unlucky_9, reduceIte, ↓reduceIte, ↓ck_i, ↓nm_s, ↓bR_i, ↓bd_i, Option.isSome_some, Option.getD_some, gK, gR, gN, gIs, inb_nI, and_self, nI_clamp, fa_lit, pk_mul, nI_add, n10, n1z, n00, eq_self, not_true_eq_false, not_false_eq_true, hR.1, hRN.1, t1, nI_leI, e, eN, a2, hr2, x0, eN2, hx]
theorem q_unl (hR : RQ B N T S c) (hu : ∀ h, uY T S h ≤ 14400 ∧ uR T S h ≤ 240) (hR2 : RQ B (sI N (B + 59) 0 (nI 0)) T S c) : ∃ P, f_X8_unlucky (B + 59) x N = some (unS T S x (T 1) 0 0, P) ∧ KA B (sI N (B + 59) 0 (nI 0)) P := by
  have w1 := hR.2.2.2.1.2.1
  obtain ⟨P, eP, p1⟩ := q_unl_lp (B := B) (c := c) (x := x) hu (T 1) 0 0 FU (sI N (B + 59) 0 (nI 0)) (by omega) (by unfold FU; omega) hR2
  refine ⟨P, ?_, p1⟩
  rw [f_X8_unlucky, ck_t (show gK N (B + 59) = 8 from hR.1.1), nm_s]
  exact eP
theorem unS_low (hx : ¬ -nI 1 ≤ x) (hw : ∀ h, plS T S h ≤ 6) : ∀ (d h w : Nat), unS T S x d h w = -nI 2 := by
  intro d
  induction d with
  | zero =>
    intro h w
    have : ¬ x = -nI 1 := fun e => hx (by rw [e]; decide)
    unfold unS
    rw [if_neg this]
  | succ d ih =>
    intro h w
    unfold unS
    split
    · exact ih (h + 1) w
    · have h2 : ¬ nI (plS T S h) = x := fun e => hx (by
        have h6 := hw h
        rw [← e, fa_le, nI_toInt (by omega)]
        have : (-nI 1).toInt = -1 := by decide
        omega)
      rw [if_neg h2]
      exact ih (h + 1) (w + 1)
theorem p_unl (hQ : CQ B t M T S c) (ht : t + 14 ≤ B + 44) (hu : ∀ h, uY T S h ≤ 14400 ∧ uR T S h ≤ 240) (hx : -nI 1 ≤ x) : ∃ N, f_X7_unlucky B x M = some (unS T S x (T 1) 0 0, N) ∧ KL B M N := by
  have w1 := hQ.2.2.2.2.1.2.1
  have hC : CmD B M.2.2 := hQ.1
  obtain ⟨N, eN, n1, n2⟩ := p_reckon hQ ht
  have hQN := n2.cq hQ ht
  have pu := p_unl_lp (x := x) hQN n1 hu (T 1) 0 0 FU (by omega) (by unfold FU; omega)
  refine ⟨N, ?_, n2⟩
  rw [← pu]
  simp (disch := omega) only [f_X7_unlucky, reduceIte, ↓reduceIte, ↓ck_i, ↓nm_s, ↓bR_i, ↓bd_i, Option.isSome_some, Option.getD_some, gK, gR, gN, gIs, inb_nI, and_self, nI_clamp, fa_lit, pk_mul, nI_add, n10, n1z, n00, eq_self, not_true_eq_false, not_false_eq_true, hC.a, hQ.2.1, hx, eN]
theorem pr_unlucky (hcc : c + 1 ≤ 600) : Pr B c (f_X7_unlucky B x) (f_X8_unlucky (B + 59) x) := by
  refine pr_q hcc (fun M t T S hQ hR ht => ?_)
  have w1 := hR.2.2.2.1.2.1
  have hu : ∀ h, uY T S h ≤ 14400 ∧ uR T S h ≤ 240 := fun h => u_le hR.2.2.2.1 hR.2.2.2.2.1
  by_cases hx : -nI 1 ≤ x
  · obtain ⟨N, e1, n2⟩ := p_unl hQ ht hu hx
    refine ⟨_, _, e1, n2.kc, fun hRN hR2 hb => ?_⟩
    obtain ⟨P, eP, p1⟩ := q_unl hRN hu hR2
    exact ⟨P, eP, (KR.th (by omega) (by omega)).tr p1.kr, by rw [p1.1, sI_r, n2.1]; exact hb⟩
  · have e1 : f_X7_unlucky B x M = some (-nI 2, M) := by
      simp (disch := omega) only [f_X7_unlucky, reduceIte, ↓reduceIte, ↓ck_i, ↓nm_s, ↓bR_i, ↓bd_i, Option.isSome_some, Option.getD_some, gK, gR, gN, gIs, inb_nI, and_self, nI_clamp, fa_lit, pk_mul, nI_add, n10, n1z, n00, eq_self, not_true_eq_false, not_false_eq_true, hx]
    refine ⟨_, _, e1, KC.rf, fun hRN hR2 hb => ?_⟩
    obtain ⟨P, eP, p1⟩ := q_unl hRN hu hR2
    rw [unS_low hx (fun h => Nat.le_trans (fb_ct_le _ _) w1)] at eP
    exact ⟨P, eP, (KR.th (by omega) (by omega)).tr p1.kr, by rw [p1.1, sI_r]; exact hb⟩
end UNL
