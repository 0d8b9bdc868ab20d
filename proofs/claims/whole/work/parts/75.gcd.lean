section GCD
theorem l63 {n : Nat} (h : n < 2 ^ 63) : (lN n).toInt = (n : Int) := lg_ofNat_toInt (by omega)
theorem l63_div {a d : Nat} (ha : a < 2 ^ 63) (h0 : 0 < d) (hd : d < 2 ^ 63) : lN a / lN d = lN (a / d) := by
  have hq : a / d < 2 ^ 63 := Nat.lt_of_le_of_lt (Nat.div_le_self a d) ha
  apply Int64.toInt_inj.mp
  rw [lg_ldiv_nonneg (by rw [l63 ha]; omega) (by rw [l63 hd]; omega), l63 ha, l63 hd, l63 hq]
  first | rfl | exact (Int.natCast_ediv _ _).symm
theorem l63_rem {a d : Nat} (ha : a < 2 ^ 63) (h0 : 0 < d) (hd : d < 2 ^ 63) : lN a - lN a / lN d * lN d = lN (a % d) := by
  rw [l63_div ha h0 hd, lN_mul, lN_sub (Nat.div_mul_le_self a d)]
  exact congrArg lN (by have := Nat.div_add_mod' a d; omega)
theorem eu_half {r y k : Nat} (h1 : 2 ^ k ≤ r) (h2 : r ≤ y) (h3 : y < 2 ^ (k + 1)) : y % r < 2 ^ k := by
  rw [Nat.mod_eq_sub_mod h2]
  have := Nat.mod_le (y - r) r
  rw [Nat.pow_succ] at h3
  omega
theorem q_eu : ∀ (k n x y : Nat) (M : Mm), y < 2 ^ k → x < 2 ^ 63 → y < 2 ^ 63 → 2 * k < n → f_X8_common_6 n (lN x) (lN y) M = some (lN (Nat.gcd y x), M) := by
  intro k
  induction k with
  | zero =>
    intro n x y M h1 h2 h3 h4
    obtain ⟨n, rfl⟩ : ∃ m, n = m + 1 := ⟨n - 1, by omega⟩
    have h0 : y = 0 := by rw [Nat.pow_zero] at h1; omega
    subst h0
    rw [Nat.gcd_zero_left]
    unfold f_X8_common_6
    rw [if_pos (show lN 0 = 0 from rfl)]
  | succ k ih =>
    intro n x y M h1 h2 h3 h4
    obtain ⟨n, rfl⟩ : ∃ m, n = m + 1 := ⟨n - 1, by omega⟩
    by_cases h0 : y = 0
    · subst h0
      rw [Nat.gcd_zero_left]
      unfold f_X8_common_6
      rw [if_pos (show lN 0 = 0 from rfl)]
    · have hy : ¬ lN y = 0 := fun e => h0 ((fb_lN_inj h3 (b := 0) (by omega)).mp e)
      have hr := Nat.mod_lt x (Nat.pos_of_ne_zero h0)
      unfold f_X8_common_6
      rw [if_neg hy, ck_t hy, nm_s, l63_rem h2 (by omega) h3, Nat.gcd_rec]
      by_cases hk : x % y < 2 ^ k
      · exact ih n y (x % y) M hk h3 (by omega) (by omega)
      · obtain ⟨n, rfl⟩ : ∃ m, n = m + 1 := ⟨n - 1, by omega⟩
        have hp : 0 < 2 ^ k := Nat.two_pow_pos k
        have hz : ¬ lN (x % y) = 0 := fun e => by
          have := (fb_lN_inj (a := x % y) (b := 0) (by omega) (by omega)).mp e
          omega
        unfold f_X8_common_6
        rw [if_neg hz, ck_t hz, nm_s, l63_rem h3 (by omega) (by omega), Nat.gcd_rec]
        have hh := eu_half (Nat.le_of_not_lt hk) (Nat.le_of_lt hr) h1
        exact ih n (x % y) (y % (x % y)) M hh (by omega) (by omega) (by omega)
theorem q_common {x y : Nat} {M : Mm} (hx : x < 2 ^ 63) (hy : y < 2 ^ 63) : f_X8_common (lN x) (lN y) M = some (lN (Nat.gcd y x), M) := q_eu 63 FU x y M hy hx hy (by unfold FU; omega)
theorem p_eu : ∀ (k n x y s : Nat) (M : Mm), y < 2 ^ k → x < 2 ^ 63 → y < 2 ^ 63 → 2 * k < n → s + 2 * k < 200 → f_X7_commonDivisor_9 n (lN x) (lN y) (nI s) M = some (lN (Nat.gcd y x), M) := by
  intro k
  induction k with
  | zero =>
    intro n x y s M h1 h2 h3 h4 h5
    have hs : ¬ (200 : Int32) ≤ nI s := by
      show ¬ nI 200 ≤ nI s
      rw [nI_leI (by omega) (by omega)]; omega
    obtain ⟨n, rfl⟩ : ∃ m, n = m + 1 := ⟨n - 1, by omega⟩
    have h0 : y = 0 := by rw [Nat.pow_zero] at h1; omega
    subst h0
    rw [Nat.gcd_zero_left]
    unfold f_X7_commonDivisor_9
    rw [if_neg hs, if_pos (show lN 0 = 0 from rfl)]
  | succ k ih =>
    intro n x y s M h1 h2 h3 h4 h5
    have hs : ¬ (200 : Int32) ≤ nI s := by
      show ¬ nI 200 ≤ nI s
      rw [nI_leI (by omega) (by omega)]; omega
    obtain ⟨n, rfl⟩ : ∃ m, n = m + 1 := ⟨n - 1, by omega⟩
    by_cases h0 : y = 0
    · subst h0
      rw [Nat.gcd_zero_left]
      unfold f_X7_commonDivisor_9
      rw [if_neg hs, if_pos (show lN 0 = 0 from rfl)]
    · have hy : ¬ lN y = 0 := fun e => h0 ((fb_lN_inj h3 (b := 0) (by omega)).mp e)
      have hr := Nat.mod_lt x (Nat.pos_of_ne_zero h0)
      unfold f_X7_commonDivisor_9
      rw [if_neg hs, if_neg hy, ck_t hy, nm_s, show nI s + (1 : Int32) = nI (s + 1) from nI_1 s, l63_rem h2 (by omega) h3, Nat.gcd_rec]
      by_cases hk : x % y < 2 ^ k
      · exact ih n y (x % y) (s + 1) M hk h3 (by omega) (by omega) (by omega)
      · obtain ⟨n, rfl⟩ : ∃ m, n = m + 1 := ⟨n - 1, by omega⟩
        have hp : 0 < 2 ^ k := Nat.two_pow_pos k
        have hz : ¬ lN (x % y) = 0 := fun e => by
          have := (fb_lN_inj (a := x % y) (b := 0) (by omega) (by omega)).mp e
          omega
        have hs2 : ¬ (200 : Int32) ≤ nI (s + 1) := by
          show ¬ nI 200 ≤ nI (s + 1)
          rw [nI_leI (by omega) (by omega)]; omega
        unfold f_X7_commonDivisor_9
        rw [if_neg hs2, if_neg hz, ck_t hz, nm_s, show nI (s + 1) + (1 : Int32) = nI (s + 2) from nI_1 (s + 1), l63_rem h3 (by omega) (by omega), Nat.gcd_rec]
        have hh := eu_half (Nat.le_of_not_lt hk) (Nat.le_of_lt hr) h1
        exact ih n (x % y) (y % (x % y)) (s + 2) M hh (by omega) (by omega) (by omega) (by omega)
theorem p_common {x y : Nat} {M : Mm} (hx : x < 2 ^ 63) (hy : y < 2 ^ 63) : f_X7_commonDivisor (lN x) (lN y) M = some (lN (Nat.gcd y x), M) := p_eu 63 FU x y 0 M hy hx hy (by unfold FU; omega) (by omega)
end GCD
