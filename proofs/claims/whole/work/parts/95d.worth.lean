/-! worth: numbers that go beyond the limit are one above it -/
def sa (x : Nat) : Nat := min x 4611686018427387905
theorem sa_le (x : Nat) : sa x ≤ 4611686018427387905 := Nat.min_le_right _ _
theorem sa_id {x : Nat} (h : x ≤ 4611686018427387904) : sa x = x := Nat.min_eq_left (by omega)
theorem sa_gt {x : Nat} (h : 4611686018427387904 < x) : sa x = 4611686018427387905 := Nat.min_eq_right (by omega)
theorem sa_iff {x : Nat} : sa x ≤ 4611686018427387904 ↔ x ≤ 4611686018427387904 := by unfold sa; omega
theorem sa_mul {a b : Nat} (h : 4611686018427387904 < sa a * sa b) : sa (a * b) = 4611686018427387905 := by
  refine sa_gt (Nat.lt_of_lt_of_le h (Nat.mul_le_mul ?_ ?_))
  · unfold sa; omega
  · unfold sa; omega
theorem sa_mul2 {a b : Nat} (ha : 0 < a) (hb : 0 < b) (h : sa a * sa b ≤ 4611686018427387904) : sa a = a ∧ sa b = b ∧ sa (a * b) = a * b := by
  have pa : 0 < sa a := by unfold sa; omega
  have pb : 0 < sa b := by unfold sa; omega
  have h1 : sa a ≤ sa a * sa b := Nat.le_mul_of_pos_right _ pb
  have h2 : sa b ≤ sa a * sa b := Nat.le_mul_of_pos_left _ pa
  have h3 := Nat.le_trans h1 h
  have h4 := Nat.le_trans h2 h
  have e1 : sa a = a := by unfold sa at h3 ⊢; omega
  have e2 : sa b = b := by unfold sa at h4 ⊢; omega
  rw [e1, e2] at h
  exact ⟨e1, e2, sa_id h⟩
section TIMES
variable {M : Mm}
theorem p_times (a b : Nat) : f_X0_times (lN (sa a)) (lN (sa b)) M = some (lN (sa (a * b)), M) := by
  have la := sa_le a
  have lb := sa_le b
  by_cases ha : a = 0
  · subst ha
    have e : sa 0 = 0 := rfl
    rw [Nat.zero_mul, e]
    simp (disch := omega) only [f_X0_times, reduceIte, ↓reduceIte, ↓ck_i, ↓nm_s, ↓bR_i, ↓bd_i, Option.isSome_some, Option.getD_some, gK, gR, gN, gIs, inb_nI, and_self, nI_clamp, fa_lit, pk_mul, nI_add, n10, n1z, n00, eq_self, not_true_eq_false, not_false_eq_true, fa_litL, pk_lLE, Nat.le_refl]
  · have pa : 0 < sa a := by unfold sa; omega
    have na : ¬ sa a ≤ 0 := by omega
    by_cases hb : b = 0
    · subst hb
      have e : sa 0 = 0 := rfl
      rw [Nat.mul_zero, e]
      simp (disch := omega) only [f_X0_times, reduceIte, ↓reduceIte, ↓ck_i, ↓nm_s, ↓bR_i, ↓bd_i, Option.isSome_some, Option.getD_some, gK, gR, gN, gIs, inb_nI, and_self, nI_clamp, fa_lit, pk_mul, nI_add, n10, n1z, n00, eq_self, not_true_eq_false, not_false_eq_true, fa_litL, pk_lLE, pk_lLT, na, Nat.lt_irrefl]
    · have pb : 0 < sa b := by unfold sa; omega
      have ne : ¬ lN (sa b) = lN 0 := by rw [pk_lEQ (by omega) (by omega)]; omega
      have dl : 4611686018427387904 / sa b ≤ 4611686018427387904 := Nat.div_le_self _ _
      by_cases hc : sa a ≤ 4611686018427387904 / sa b
      · have hm := (Nat.le_div_iff_mul_le pb).mp hc
        obtain ⟨e1, e2, e3⟩ := sa_mul2 (by omega) (by omega) hm
        rw [e3, ← show sa a * sa b = a * b by rw [e1, e2]]
        simp (disch := omega) only [f_X0_times, reduceIte, ↓reduceIte, ↓ck_i, ↓nm_s, ↓bR_i, ↓bd_i, Option.isSome_some, Option.getD_some, gK, gR, gN, gIs, inb_nI, and_self, nI_clamp, fa_lit, pk_mul, nI_add, n10, n1z, n00, eq_self, not_true_eq_false, not_false_eq_true, fa_litL, pk_lLE, pk_lLT, na, pb, ne, pk_lDiv, hc, lN_mul]
      · have hm : 4611686018427387904 < sa a * sa b := Nat.lt_of_not_le (fun q => hc ((Nat.le_div_iff_mul_le pb).mpr q))
        rw [sa_mul hm]
        simp (disch := omega) only [f_X0_times, reduceIte, ↓reduceIte, ↓ck_i, ↓nm_s, ↓bR_i, ↓bd_i, Option.isSome_some, Option.getD_some, gK, gR, gN, gIs, inb_nI, and_self, nI_clamp, fa_lit, pk_mul, nI_add, n10, n1z, n00, eq_self, not_true_eq_false, not_false_eq_true, fa_litL, pk_lLE, pk_lLT, na, pb, ne, pk_lDiv, hc]
theorem q_times (a b : Nat) : f_X8_times (lN (sa a)) (lN (sa b)) M = some (lN (sa (a * b)), M) := by
  have la := sa_le a
  have lb := sa_le b
  by_cases ha : a = 0
  · subst ha
    have e : sa 0 = 0 := rfl
    rw [Nat.zero_mul, e]
    simp (disch := omega) only [f_X8_times, reduceIte, ↓reduceIte, ↓ck_i, ↓nm_s, ↓bR_i, ↓bd_i, Option.isSome_some, Option.getD_some, gK, gR, gN, gIs, inb_nI, and_self, nI_clamp, fa_lit, pk_mul, nI_add, n10, n1z, n00, eq_self, not_true_eq_false, not_false_eq_true, fa_litL, lN_mul, Nat.zero_mul]
  · have pa : 0 < sa a := by unfold sa; omega
    have ne : ¬ lN (sa a) = lN 0 := by rw [pk_lEQ (by omega) (by omega)]; omega
    have dl : 4611686018427387904 / sa a ≤ 4611686018427387904 := Nat.div_le_self _ _
    by_cases hc : sa b ≤ 4611686018427387904 / sa a
    · have hc2 : ¬ 4611686018427387904 / sa a < sa b := by omega
      have hm := (Nat.le_div_iff_mul_le pa).mp hc
      rw [Nat.mul_comm] at hm
      have e4 : sa (a * b) = sa a * sa b := by
        by_cases hb : b = 0
        · subst hb; rfl
        · obtain ⟨e1, e2, e3⟩ := sa_mul2 (by omega) (by omega) hm
          rw [e3, e1, e2]
      rw [e4]
      simp (disch := omega) only [f_X8_times, reduceIte, ↓reduceIte, ↓ck_i, ↓nm_s, ↓bR_i, ↓bd_i, Option.isSome_some, Option.getD_some, gK, gR, gN, gIs, inb_nI, and_self, nI_clamp, fa_lit, pk_mul, nI_add, n10, n1z, n00, eq_self, not_true_eq_false, not_false_eq_true, fa_litL, pk_lLT, ne, pk_lDiv, hc2, lN_mul]
    · have hc2 : 4611686018427387904 / sa a < sa b := by omega
      have hm : 4611686018427387904 < sa a * sa b := Nat.lt_of_not_le (fun q => hc ((Nat.le_div_iff_mul_le pa).mpr (by rw [Nat.mul_comm]; exact q)))
      rw [sa_mul hm]
      simp (disch := omega) only [f_X8_times, reduceIte, ↓reduceIte, ↓ck_i, ↓nm_s, ↓bR_i, ↓bd_i, Option.isSome_some, Option.getD_some, gK, gR, gN, gIs, inb_nI, and_self, nI_clamp, fa_lit, pk_mul, nI_add, n10, n1z, n00, eq_self, not_true_eq_false, not_false_eq_true, fa_litL, pk_lLT, ne, pk_lDiv, hc2]
theorem p_plus (a b : Nat) : f_X0_plus (lN (sa a)) (lN (sa b)) M = some (lN (sa (a + b)), M) := by
  have la := sa_le a
  have lb := sa_le b
  by_cases hb : b ≤ 4611686018427387904
  · rw [sa_id hb]
    by_cases hc : sa a ≤ 4611686018427387904 - b
    · have e : sa (a + b) = sa a + b := by unfold sa at hc ⊢; omega
      rw [e]
      simp (disch := omega) only [f_X0_plus, reduceIte, ↓reduceIte, ↓ck_i, ↓nm_s, ↓bR_i, ↓bd_i, Option.isSome_some, Option.getD_some, gK, gR, gN, gIs, inb_nI, and_self, nI_clamp, fa_lit, pk_mul, nI_add, n10, n1z, n00, eq_self, not_true_eq_false, not_false_eq_true, fa_litL, lN_sub, pk_lLE, hc, lN_add]
    · have e : sa (a + b) = 4611686018427387905 := by unfold sa at hc ⊢; omega
      rw [e]
      simp (disch := omega) only [f_X0_plus, reduceIte, ↓reduceIte, ↓ck_i, ↓nm_s, ↓bR_i, ↓bd_i, Option.isSome_some, Option.getD_some, gK, gR, gN, gIs, inb_nI, and_self, nI_clamp, fa_lit, pk_mul, nI_add, n10, n1z, n00, eq_self, not_true_eq_false, not_false_eq_true, fa_litL, lN_sub, pk_lLE, hc]
  · rw [sa_gt (x := b) (by omega), sa_gt (x := a + b) (by omega)]
    have hc : ¬ lN (sa a) ≤ lN 4611686018427387904 - lN 4611686018427387905 := by
      rw [fa_le64, pk_lT (by omega)]
      have : (lN 4611686018427387904 - lN 4611686018427387905).toInt = -1 := by decide
      omega
    simp (disch := omega) only [f_X0_plus, reduceIte, ↓reduceIte, ↓ck_i, ↓nm_s, ↓bR_i, ↓bd_i, Option.isSome_some, Option.getD_some, gK, gR, gN, gIs, inb_nI, and_self, nI_clamp, fa_lit, pk_mul, nI_add, n10, n1z, n00, eq_self, not_true_eq_false, not_false_eq_true, fa_litL, hc]
theorem q_pow_lp {p n : Nat} (hp : 0 < p) (hp2 : p ≤ 1000) (hn : n < 100) : ∀ (d k m : Nat), k + d = n → d < m → f_X8_power_5 m (lN p) (nI n) (lN (sa (p ^ k))) (nI k) M = some (lN (sa (p ^ n)), M) := by
  intro d
  induction d with
  | zero =>
    intro k m hk hm
    obtain ⟨m, rfl⟩ : ∃ q, m = q + 1 := ⟨m - 1, by omega⟩
    have hk : k = n := by omega
    subst hk
    simp (disch := omega) only [f_X8_power_5, reduceIte, ↓reduceIte, ↓ck_i, ↓nm_s, ↓bR_i, ↓bd_i, Option.isSome_some, Option.getD_some, gK, gR, gN, gIs, inb_nI, and_self, nI_clamp, fa_lit, pk_mul, nI_add, n10, n1z, n00, eq_self, not_true_eq_false, not_false_eq_true, nI_leI, Nat.le_refl]
  | succ d ih =>
    intro k m hk hm
    obtain ⟨m, rfl⟩ : ∃ q, m = q + 1 := ⟨m - 1, by omega⟩
    have ih := ih (k + 1) m (by omega) (by omega)
    have e : ¬ n ≤ k := by omega
    have la := sa_le (p ^ k)
    rw [← ih]
    by_cases hc : sa (p ^ k) ≤ 4611686018427387904
    · have qt := q_times (M := M) (p ^ k) p
      rw [show sa p = p from sa_id (by omega), ← Nat.pow_succ] at qt
      simp (disch := omega) only [f_X8_power_5, reduceIte, ↓reduceIte, ↓ck_i, ↓nm_s, ↓bR_i, ↓bd_i, Option.isSome_some, Option.getD_some, gK, gR, gN, gIs, inb_nI, and_self, nI_clamp, fa_lit, pk_mul, nI_add, n10, n1z, n00, eq_self, not_true_eq_false, not_false_eq_true, nI_leI, e, fa_litL, pk_lLE, hc, qt]
    · have e2 : sa (p ^ (k + 1)) = sa (p ^ k) := by
        have h1 : 4611686018427387904 < p ^ k := by unfold sa at hc; omega
        have h2 : p ^ k ≤ p ^ (k + 1) := Nat.pow_le_pow_right hp (by omega)
        rw [sa_gt h1, sa_gt (by omega)]
      rw [e2]
      simp (disch := omega) only [f_X8_power_5, reduceIte, ↓reduceIte, ↓ck_i, ↓nm_s, ↓bR_i, ↓bd_i, Option.isSome_some, Option.getD_some, gK, gR, gN, gIs, inb_nI, and_self, nI_clamp, fa_lit, pk_mul, nI_add, n10, n1z, n00, eq_self, not_true_eq_false, not_false_eq_true, nI_leI, e, fa_litL, pk_lLE, hc]
theorem q_pow {p n : Nat} (hp : 0 < p) (hp2 : p ≤ 1000) (hn : n < 100) : f_X8_power (lN p) (nI n) M = some (lN (sa (p ^ n)), M) := by
  have h := q_pow_lp (M := M) hp hp2 hn n 0 FU (by omega) (by unfold FU; omega)
  rw [Nat.pow_zero, show sa 1 = 1 from rfl] at h
  unfold f_X8_power
  rw [show (1 : Int64) = lN 1 from rfl, show (0 : Int32) = nI 0 from rfl]
  exact h
end TIMES
/-- all together, year by year (p, q in least terms) -/
def aH (T S : Nat → Nat) (l p q : Nat) : Nat → Nat
  | 0 => 0
  | j + 1 => aH T S l p q j * q + vP T S l (S 1206 + 1 + j) * p ^ (j + 1)
def KW (B : Nat) (M N : Mm) : Prop := N.1 = M.1 ∧ N.2.2 = M.2.2 ∧ ∀ a, a ≠ B + 55 → N.2.1 a = M.2.1 a
def KU (B : Nat) (M N : Mm) : Prop := N.1 = M.1 ∧ N.2.2 = M.2.2 ∧ (∀ a, a ≠ B + 59 → N.2.1 a = M.2.1 a) ∧ ∀ j, j ≠ 29 → j ≠ 30 → N.2.1 (B + 59) j = M.2.1 (B + 59) j
section WEIGH
variable {B t c l : Nat} {T S : Nat → Nat} {M N P : Mm} {x y : Int32}
theorem KW.tr (h : KW B M N) (g : KW B N P) : KW B M P := ⟨g.1.trans h.1, g.2.1.trans h.2.1, fun a ha => (g.2.2 a ha).trans (h.2.2 a ha)⟩
theorem KU.tr (h : KU B M N) (g : KU B N P) : KU B M P := ⟨g.1.trans h.1, g.2.1.trans h.2.1, fun a ha => (g.2.2.1 a ha).trans (h.2.2.1 a ha), fun j h1 h2 => (g.2.2.2 j h1 h2).trans (h.2.2.2 j h1 h2)⟩
theorem KW.s {j : Nat} {v : Int64} : KW B M (sL M (B + 55) j v) := ⟨rfl, rfl, fun a ha => sL_ne ha⟩
theorem KU.s {j : Nat} {v : Int64} (hj : j = 29 ∨ j = 30) : KU B M (sL M (B + 59) j v) := ⟨rfl, rfl, fun a ha => sL_ne ha, fun i h1 h2 => sL_oth (by omega)⟩
theorem KW.cq (h : KW B M N) (hQ : CQ B t M T S c) : CQ B t N T S c := by unfold CQ; rw [h.1, h.2.1]; exact hQ
theorem KW.ro (h : KW B M N) (hO : RO B M T S l) : RO B N T S l := hO.of (by rw [h.1]) (by rw [h.1]) (by rw [h.1])
theorem KW.rr (h : KW B M N) (hO : RR B M T S l 0 0 0) : RR B N T S l 0 0 0 := by unfold RR RA; rw [h.1]; exact hO
theorem KU.rq (h : KU B M N) (hQ : RQ B M T S c) : RQ B N T S c := by unfold RQ; rw [h.1, h.2.1]; exact hQ
theorem KU.qr (h : KU B M N) (hO : QR B M T S l 0 0 0) : QR B N T S l 0 0 0 := by unfold QR QA; rw [h.1]; exact hO
theorem w_un_lp (hl : l < T 0) {p q : Nat} {R : Int32 → Mm → Prop} : ∀ (d j n : Nat) (M : Mm), d = T (12 + 7 * l + 3) + 1 - (S 1206 + 1 + j) → j ≤ 60 → d < n → CQ B t M T S c → RO B M T S l → M.2.1 (B + 55) 1 = lN (sa (ctS T S l 0 * q ^ j)) → q ≤ 1000 →
    (∀ N, KW B M N → N.2.1 (B + 55) 1 = lN (sa (ctS T S l 0 * q ^ (j + d))) → ∀ x : Int32, T (12 + 7 * l + 3) < S 1206 + 1 + (j + d) → ∃ v P, (∀ m, f_X0_weigh_51 (m + 1) (B + 55) (B + 44) (lN p) (lN q) (nI (S 1206 + 1 + (j + d))) N = some (v, P)) ∧ R v P) → ∃ v P, f_X0_weigh_51 n (B + 55) (B + 44) (lN p) (lN q) (nI (S 1206 + 1 + j)) M = some (v, P) ∧ R v P := by
  intro d
  induction d with
  | zero =>
    intro j n M hd hj hn hQ hO h1 hq hR
    obtain ⟨n, rfl⟩ : ∃ m, n = m + 1 := ⟨n - 1, by omega⟩
    obtain ⟨v, P, e, r⟩ := hR M ⟨rfl, rfl, fun _ _ => rfl⟩ h1 0 (by omega)
    exact ⟨v, P, e n, r⟩
  | succ d ih =>
    intro j n M hd hj hn hQ hO h1 hq hR
    have w := (hQ.2.2.2.2.1.2.2 l hl).2.2.2.2.2.2.1
    have y60 := hQ.2.2.2.2.2.2.2.1.1
    obtain ⟨n, rfl⟩ : ∃ m, n = m + 1 := ⟨n - 1, by omega⟩
    have e : ¬ T (12 + 7 * l + 3) < S 1206 + 1 + j := by omega
    have pt := p_times (M := M) (ctS T S l 0 * q ^ j) q
    rw [show sa q = q from sa_id (by omega), Nat.mul_assoc, ← Nat.pow_succ] at pt
    have k1 : KW B M (sL M (B + 55) 1 (lN (sa (ctS T S l 0 * q ^ (j + 1))))) := KW.s
    obtain ⟨v, P, eP, r⟩ := ih (j + 1) n (sL M (B + 55) 1 (lN (sa (ctS T S l 0 * q ^ (j + 1))))) (by omega) (by omega) (by omega) (k1.cq hQ) (k1.ro hO) sL_hit hq (fun N kN h2 x hx => by
      rw [show j + 1 + d = j + (d + 1) by omega] at h2 hx ⊢
      exact hR N (k1.tr kN) h2 x hx)
    refine ⟨v, P, ?_, r⟩
    rw [← eP]
    have hC : CmD B M.2.2 := hQ.1
    simp (disch := omega) only [f_X0_weigh_51, reduceIte, ↓reduceIte, ↓ck_i, ↓nm_s, ↓bR_i, ↓bd_i, Option.isSome_some, Option.getD_some, gK, gR, gN, gIs, inb_nI, and_self, nI_clamp, fa_lit, pk_mul, nI_add, n10, n1z, n00, eq_self, not_true_eq_false, not_false_eq_true, hC.a, hO.1, nI_ltI, e, gL, h1, pt, ← Nat.add_assoc]
theorem aH_s {p q j : Nat} : aH T S l p q (j + 1) = aH T S l p q j * q + vP T S l (S 1206 + 1 + j) * p ^ (j + 1) := by rw [aH]
theorem w_ab_0 (hl : l < T 0) {p q j n : Nat} (e : T (12 + 7 * l + 3) < S 1206 + 1 + j) (hj : j ≤ 60) (hQ : CQ B t M T S c) (hO : RO B M T S l) {a : Nat} {z : Int64} (h1 : M.2.1 (B + 55) 0 = lN (sa a)) : f_X0_weigh_106 (n + 1) (B + 55) (B + 44) (lN p) (lN q) z (nI (S 1206 + 1 + j)) M = some (if a ≤ 4611686018427387904 then nI 1 else nI 0, M) := by
  have w := (hQ.2.2.2.2.1.2.2 l hl).2.2.2.2.2.2.1
  have y60 := hQ.2.2.2.2.2.2.2.1.1
  have la := sa_le a
  have hC : CmD B M.2.2 := hQ.1
  by_cases hc : a ≤ 4611686018427387904
  · have hc2 : ¬ 4611686018427387904 < sa a := by rw [sa_id hc]; omega
    rw [if_pos hc]
    simp (disch := omega) only [f_X0_weigh_106, reduceIte, ↓reduceIte, ↓ck_i, ↓nm_s, ↓bR_i, ↓bd_i, Option.isSome_some, Option.getD_some, gK, gR, gN, gIs, inb_nI, and_self, nI_clamp, fa_lit, pk_mul, nI_add, n10, n1z, n00, eq_self, not_true_eq_false, not_false_eq_true, hC.a, hO.1, nI_ltI, e, gL, h1, fa_litL, pk_lLT, hc2]
  · have hc2 : 4611686018427387904 < sa a := by rw [sa_gt (by omega)]; omega
    rw [if_neg hc]
    simp (disch := omega) only [f_X0_weigh_106, reduceIte, ↓reduceIte, ↓ck_i, ↓nm_s, ↓bR_i, ↓bd_i, Option.isSome_some, Option.getD_some, gK, gR, gN, gIs, inb_nI, and_self, nI_clamp, fa_lit, pk_mul, nI_add, n10, n1z, n00, eq_self, not_true_eq_false, not_false_eq_true, hC.a, hO.1, nI_ltI, e, gL, h1, fa_litL, pk_lLT, hc2]
theorem w_ab_s (hl : l < T 0) {p q j n : Nat} (hp : p ≤ 1000) (hq : q ≤ 1000) (e : S 1206 + 1 + j ≤ T (12 + 7 * l + 3)) (hQ : CQ B t M T S c) (hO : RO B M T S l) (hA : RR B M T S l 0 0 0) {a : Nat} (h1 : M.2.1 (B + 55) 0 = lN (sa a)) : f_X0_weigh_106 (n + 1) (B + 55) (B + 44) (lN p) (lN q) (lN (sa (p ^ j))) (nI (S 1206 + 1 + j)) M = f_X0_weigh_106 n (B + 55) (B + 44) (lN p) (lN q) (lN (sa (p ^ (j + 1)))) (nI (S 1206 + 1 + (j + 1))) (sL M (B + 55) 0 (lN (sa (a * q + vP T S l (S 1206 + 1 + j) * p ^ (j + 1))))) := by
  have w := (hQ.2.2.2.2.1.2.2 l hl).2.2.2.2.2.2.1
  have y60 := hQ.2.2.2.2.2.2.2.1.1
  have e' : ¬ T (12 + 7 * l + 3) < S 1206 + 1 + j := by omega
  have vl := vP_le hQ.2.2.2.2.1 hQ.2.2.2.2.2.2.2.1 hQ.2.2.2.2.2.2.2.2 hl (y := S 1206 + 1 + j) (by omega) (by omega)
  have pv := p_vP hQ hl hO hA (y := S 1206 + 1 + j) (by omega) (by omega)
  have t1 := p_times (M := M) (p ^ j) p
  rw [show sa p = p from sa_id (by omega), ← Nat.pow_succ] at t1
  have t2 := p_times (M := M) a q
  rw [show sa q = q from sa_id (by omega)] at t2
  have t3 := p_times (M := M) (vP T S l (S 1206 + 1 + j)) (p ^ (j + 1))
  rw [show sa (vP T S l (S 1206 + 1 + j)) = vP T S l (S 1206 + 1 + j) from sa_id (by omega)] at t3
  have t4 := p_plus (M := M) (a * q) (vP T S l (S 1206 + 1 + j) * p ^ (j + 1))
  have hC : CmD B M.2.2 := hQ.1
  generalize sa (a * q + vP T S l (S 1206 + 1 + j) * p ^ (j + 1)) = r1 at *
  generalize sa (vP T S l (S 1206 + 1 + j) * p ^ (j + 1)) = r2 at *
  generalize sa (a * q) = r3 at *
  generalize sa (p ^ (j + 1)) = r4 at *
  generalize sa (p ^ j) = r5 at *
  generalize sa a = r6 at *
  generalize vP T S l (S 1206 + 1 + j) = r7 at *
  rw [show S 1206 + 1 + (j + 1) = S 1206 + 1 + j + 1 by omega]
  have k4 : gK M (B + 44) = 4 := by show M.2.2.2.1 (B + 44) = 4; simp only [hC.a]
  have k5 : gK M (B + 55) = 0 := by show M.2.2.2.1 (B + 55) = 0; simp only [hC.a]
  have i9 : ¬ gI M (B + 44) 9 < nI (S 1206 + 1 + j) := by
    show ¬ M.1 (B + 44) 9 < _
    rw [hO.1.2.2.2.2.2.2.2.1, nI_ltI (by omega) (by omega)]
    exact e'
  rw [f_X0_weigh_106, ck_t k4, if_neg i9, t1, bd_s, ck_t k5, show gL M (B + 55) 0 = lN r6 from h1, t2, bd_s, ck_t k4, pv, bd_s, nI_l (by omega), t3, bd_s, t4, bd_s, ck_t k5, nm_s, show nI (S 1206 + 1 + j) + 1 = nI (S 1206 + 1 + j + 1) from nI_1 _]
theorem w_ab_lp (hl : l < T 0) {p q : Nat} (hp : p ≤ 1000) (hq : q ≤ 1000) : ∀ (d j n : Nat) (M : Mm), d = T (12 + 7 * l + 3) + 1 - (S 1206 + 1 + j) → j ≤ 60 → d < n → CQ B t M T S c → RO B M T S l → RR B M T S l 0 0 0 → M.2.1 (B + 55) 0 = lN (sa (aH T S l p q j)) → ∃ N, f_X0_weigh_106 n (B + 55) (B + 44) (lN p) (lN q) (lN (sa (p ^ j))) (nI (S 1206 + 1 + j)) M = some (if aH T S l p q (j + d) ≤ 4611686018427387904 then nI 1 else nI 0, N) ∧ KW B M N ∧ N.2.1 (B + 55) 0 = lN (sa (aH T S l p q (j + d))) ∧ N.2.1 (B + 55) 1 = M.2.1 (B + 55) 1 := by
  intro d
  induction d with
  | zero =>
    intro j n M hd hj hn hQ hO hA h1
    obtain ⟨n, rfl⟩ : ∃ m, n = m + 1 := ⟨n - 1, by omega⟩
    rw [show j + 0 = j by omega]
    exact ⟨M, w_ab_0 hl (by omega) hj hQ hO h1, ⟨rfl, rfl, fun _ _ => rfl⟩, h1, rfl⟩
  | succ d ih =>
    intro j n M hd hj hn hQ hO hA h1
    have w := (hQ.2.2.2.2.1.2.2 l hl).2.2.2.2.2.2.1
    obtain ⟨n, rfl⟩ : ∃ m, n = m + 1 := ⟨n - 1, by omega⟩
    have st := w_ab_s (j := j) (n := n) hl hp hq (by omega) hQ hO hA h1
    rw [← aH_s] at st
    have k1 : KW B M (sL M (B + 55) 0 (lN (sa (aH T S l p q (j + 1))))) := KW.s
    obtain ⟨N, eN, n1, n2, n3⟩ := ih (j + 1) n (sL M (B + 55) 0 (lN (sa (aH T S l p q (j + 1))))) (by omega) (by omega) (by omega) (k1.cq hQ) (k1.ro hO) (k1.rr hA) sL_hit
    rw [show j + 1 + d = j + (d + 1) by omega] at eN n2
    exact ⟨N, by rw [st]; exact eN, k1.tr n1, n2, by rw [n3, sL_oth (by omega)]⟩
def pOf (i : Nat) : Nat := 100 / Nat.gcd (100 + i) 100
def qOf (i : Nat) : Nat := (100 + i) / Nat.gcd (100 + i) 100
def wU (T S : Nat → Nat) (l i : Nat) : Nat := ctS T S l 0 * qOf i ^ (T (12 + 7 * l + 3) - S 1206)
def wA (T S : Nat → Nat) (l i : Nat) : Nat := aH T S l (pOf i) (qOf i) (T (12 + 7 * l + 3) - S 1206)
theorem pq_rng {i : Nat} (hi : i ≤ 99) : 0 < pOf i ∧ pOf i ≤ 1000 ∧ 0 < qOf i ∧ qOf i ≤ 1000 := by
  have g1 := Nat.gcd_pos_of_pos_left 100 (show 0 < 100 + i by omega)
  have g2 := Nat.gcd_le_left 100 (show 0 < 100 + i by omega)
  have g3 := Nat.gcd_le_right (100 + i) (show 0 < 100 by omega)
  unfold pOf qOf
  refine ⟨Nat.div_pos g3 g1, Nat.le_trans (Nat.div_le_self _ _) (by omega), Nat.div_pos g2 g1, Nat.le_trans (Nat.div_le_self _ _) (by omega)⟩
theorem p_weigh (hQ : CQ B t M T S c) (hl : l < T 0) (hO : RO B M T S l) (hA : RR B M T S l 0 0 0) (hy : S 1206 < T (12 + 7 * l + 3)) {i : Nat} (hi : i ≤ 99) : ∃ N, f_X0_weigh (B + 55) (B + 44) (nI i) M = some (if wU T S l i ≤ 4611686018427387904 then (if wA T S l i ≤ 4611686018427387904 then nI 1 else nI 0) else nI 0, N) ∧ KW B M N ∧ (wU T S l i ≤ 4611686018427387904 → wA T S l i ≤ 4611686018427387904 → N.2.1 (B + 55) 0 = lN (wA T S l i) ∧ N.2.1 (B + 55) 1 = lN (wU T S l i)) := by
  have hC : CmD B M.2.2 := hQ.1
  have w := (hQ.2.2.2.2.1.2.2 l hl).2.2.2.2.2.2.1
  have y60 := hQ.2.2.2.2.2.2.2.1.1
  have cx : ctS T S l 0 ≤ 60 := Nat.le_trans (fb_ct_le _ _) (hQ.2.2.2.2.1.2.2 l hl).2.1
  have pq := pq_rng hi
  have g1 := Nat.gcd_pos_of_pos_left 100 (show 0 < 100 + i by omega)
  have g2 := Nat.gcd_le_left 100 (show 0 < 100 + i by omega)
  have cm := p_common (M := M) (x := 100) (y := 100 + i) (by omega) (by omega)
  have k0 : KW B M (sL M (B + 55) 1 (lN (ctS T S l 0))) := KW.s
  have hsa : sa (ctS T S l 0 * qOf i ^ 0) = ctS T S l 0 := by rw [Nat.pow_zero, Nat.mul_one]; exact sa_id (by omega)
  have hd : T (12 + 7 * l + 3) + 1 - (S 1206 + 1 + 0) = T (12 + 7 * l + 3) - S 1206 := by omega
  obtain ⟨v, P, eP, r1, r2, r3⟩ := w_un_lp (B := B) (t := t) (c := c) (S := S) (T := T) hl (p := pOf i) (q := qOf i) (R := fun v N => v = (if wU T S l i ≤ 4611686018427387904 then (if wA T S l i ≤ 4611686018427387904 then nI 1 else nI 0) else nI 0) ∧ KW B M N ∧ (wU T S l i ≤ 4611686018427387904 → wA T S l i ≤ 4611686018427387904 → N.2.1 (B + 55) 0 = lN (wA T S l i) ∧ N.2.1 (B + 55) 1 = lN (wU T S l i))) (T (12 + 7 * l + 3) + 1 - (S 1206 + 1 + 0)) 0 FU (sL M (B + 55) 1 (lN (ctS T S l 0))) rfl (by omega) (by unfold FU; omega) (k0.cq hQ) (k0.ro hO) (by rw [hsa]; exact sL_hit) pq.2.2.2 (fun N kN h2 _ hx => by
    rw [Nat.zero_add, hd] at h2 hx ⊢
    have h2' : N.2.1 (B + 55) 1 = lN (sa (wU T S l i)) := h2
    have hQN := (k0.tr kN).cq hQ
    have hON := (k0.tr kN).ro hO
    have hAN := (k0.tr kN).rr hA
    have hCN : CmD B N.2.2 := hQN.1
    have la := sa_le (wU T S l i)
    by_cases hu : wU T S l i ≤ 4611686018427387904
    · have k2 : KW B N (sL N (B + 55) 0 (lN 0)) := KW.s
      obtain ⟨Q, eQ, q1, q2, q3⟩ := w_ab_lp (B := B) (t := t) (c := c) hl pq.2.1 pq.2.2.2 (T (12 + 7 * l + 3) + 1 - (S 1206 + 1 + 0)) 0 FU (sL N (B + 55) 0 (lN 0)) rfl (by omega) (by unfold FU; omega) (k2.cq hQN) (k2.ro hON) (k2.rr hAN) sL_hit
      rw [Nat.zero_add, hd, Nat.pow_zero, show sa 1 = 1 from rfl, Nat.add_zero] at eQ
      rw [Nat.zero_add, hd] at q2
      refine ⟨_, Q, fun m => ?_, rfl, ((k0.tr kN).tr k2).tr q1, fun _ ha => ⟨?_, ?_⟩⟩
      · rw [if_pos hu]
        have hu2 : sa (wU T S l i) ≤ 4611686018427387904 := sa_iff.mpr hu
        have eQ' : f_X0_weigh_106 FU (B + 55) (B + 44) (lN (pOf i)) (lN (qOf i)) (lN 1) (nI (S 1206 + 1)) (sL N (B + 55) 0 (lN 0)) = some (if wA T S l i ≤ 4611686018427387904 then nI 1 else nI 0, Q) := eQ
        rw [← eQ']
        simp (disch := omega) only [f_X0_weigh_51, reduceIte, ↓reduceIte, ↓ck_i, ↓nm_s, ↓bR_i, ↓bd_i, Option.isSome_some, Option.getD_some, gK, gR, gN, gIs, inb_nI, and_self, nI_clamp, fa_lit, pk_mul, nI_add, n10, n1z, n00, eq_self, not_true_eq_false, not_false_eq_true, hCN.a, hON.1, nI_ltI, hx, gL, h2', fa_litL, pk_lLE, hu2, sL_sh, sL_1]
      · rw [q2]
        exact congrArg lN (sa_id ha)
      · rw [q3, sL_oth (by omega), h2', sa_id hu]
    · refine ⟨nI 0, N, fun m => ?_, by rw [if_neg hu], k0.tr kN, fun h => absurd h hu⟩
      have hu2 : ¬ sa (wU T S l i) ≤ 4611686018427387904 := fun h => hu (sa_iff.mp h)
      simp (disch := omega) only [f_X0_weigh_51, reduceIte, ↓reduceIte, ↓ck_i, ↓nm_s, ↓bR_i, ↓bd_i, Option.isSome_some, Option.getD_some, gK, gR, gN, gIs, inb_nI, and_self, nI_clamp, fa_lit, pk_mul, nI_add, n10, n1z, n00, eq_self, not_true_eq_false, not_false_eq_true, hCN.a, hON.1, nI_ltI, hx, gL, h2', fa_litL, pk_lLE, hu2])
  refine ⟨P, ?_, r2, r3⟩
  rw [← r1, ← eP]
  have ne : ¬ lN (Nat.gcd (100 + i) 100) = lN 0 := by rw [pk_lEQ (by omega) (by omega)]; omega
  have pq1 : 100 / Nat.gcd (100 + i) 100 = pOf i := rfl
  have pq2 : (100 + i) / Nat.gcd (100 + i) 100 = qOf i := rfl
  simp (disch := omega) only [f_X0_weigh, reduceIte, ↓reduceIte, ↓ck_i, ↓nm_s, ↓bR_i, ↓bd_i, Option.isSome_some, Option.getD_some, gK, gR, gN, gIs, inb_nI, and_self, nI_clamp, fa_lit, pk_mul, nI_add, n10, n1z, n00, eq_self, not_true_eq_false, not_false_eq_true, nI_l, fa_litL, cm, pk_lLT, g1, ne, pk_lDiv, pq1, pq2, hC.a, hO.1, sL_sh, sL_1, Nat.add_zero]
end WEIGH
