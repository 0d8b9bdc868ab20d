section TELL
theorem q_eul {B p q : Nat} (hp0 : p < 2 ^ 63) (hq0 : q < 2 ^ 63) : ∀ (k n x y : Nat) (M : Mm), y < 2 ^ k → x < 2 ^ 63 → y < 2 ^ 63 → 2 * k < n → gK M (B + 59) = 8 → 0 < Nat.gcd y x → f_X8_least_6 n (B + 59) (lN p) (lN q) (lN x) (lN y) M = some (lN (p / Nat.gcd y x), sL M (B + 59) 28 (lN (q / Nat.gcd y x))) := by
  intro k
  induction k with
  | zero =>
    intro n x y M h1 h2 h3 h4 hK hg
    obtain ⟨n, rfl⟩ : ∃ m, n = m + 1 := ⟨n - 1, by omega⟩
    have h0 : y = 0 := by rw [Nat.pow_zero] at h1; omega
    subst h0
    rw [Nat.gcd_zero_left] at hg ⊢
    have hx0 : ¬ lN x = 0 := fun e => by
      have := (fb_lN_inj (a := x) (b := 0) h2 (by omega)).mp e
      omega
    unfold f_X8_least_6
    rw [if_pos (show lN 0 = 0 from rfl), ck_t hx0, ck_t hK, nm_s, ck_t hx0, l63_div hp0 hg h2, l63_div hq0 hg h2]
  | succ k ih =>
    intro n x y M h1 h2 h3 h4 hK hg
    obtain ⟨n, rfl⟩ : ∃ m, n = m + 1 := ⟨n - 1, by omega⟩
    by_cases h0 : y = 0
    · subst h0
      rw [Nat.gcd_zero_left] at hg ⊢
      have hx0 : ¬ lN x = 0 := fun e => by
        have := (fb_lN_inj (a := x) (b := 0) h2 (by omega)).mp e
        omega
      unfold f_X8_least_6
      rw [if_pos (show lN 0 = 0 from rfl), ck_t hx0, ck_t hK, nm_s, ck_t hx0, l63_div hp0 hg h2, l63_div hq0 hg h2]
    · have hy : ¬ lN y = 0 := fun e => h0 ((fb_lN_inj h3 (b := 0) (by omega)).mp e)
      have hg2 := hg
      rw [Nat.gcd_rec] at hg2
      have hr := Nat.mod_lt x (Nat.pos_of_ne_zero h0)
      unfold f_X8_least_6
      rw [if_neg hy, ck_t hy, nm_s, l63_rem h2 (by omega) h3, Nat.gcd_rec]
      by_cases hk : x % y < 2 ^ k
      · exact ih n y (x % y) M hk h3 (by omega) (by omega) hK hg2
      · obtain ⟨n, rfl⟩ : ∃ m, n = m + 1 := ⟨n - 1, by omega⟩
        have hp : 0 < 2 ^ k := Nat.two_pow_pos k
        have hz : ¬ lN (x % y) = 0 := fun e => by
          have := (fb_lN_inj (a := x % y) (b := 0) (by omega) (by omega)).mp e
          omega
        have hg3 := hg2
        rw [Nat.gcd_rec] at hg3
        unfold f_X8_least_6
        rw [if_neg hz, ck_t hz, nm_s, l63_rem h3 (by omega) (by omega), Nat.gcd_rec]
        have hh := eu_half (Nat.le_of_not_lt hk) (Nat.le_of_lt hr) h1
        exact ih n (x % y) (y % (x % y)) M hh (by omega) (by omega) (by omega) hK hg3
theorem q_least {B x y : Nat} {M : Mm} (hK : gK M (B + 59) = 8) (hx : x < 2 ^ 63) (h0 : 0 < y) (hy : y < 2 ^ 63) : f_X8_least (B + 59) (lN x) (lN y) M = some (lN (x / Nat.gcd y x), sL M (B + 59) 28 (lN (y / Nat.gcd y x))) := q_eul hx hy 63 FU x y M hy hx hy (by unfold FU; omega) hK (Nat.gcd_pos_of_pos_left _ h0)
theorem p_tell {B x y : Nat} {M : Mm} (hK : gK M B = 7) (hx : x < 2 ^ 63) (h0 : 0 < y) (hy : y < 2 ^ 63) : f_X7_tell B (lN x) (lN y) M = some (lN (x / Nat.gcd y x), sL M B 6 (lN (y / Nat.gcd y x))) := by
  have hg := Nat.gcd_pos_of_pos_left x h0
  have hg2 : Nat.gcd y x < 2 ^ 63 := Nat.lt_of_le_of_lt (Nat.gcd_le_left x h0) hy
  have e1 : (0 : Int64) < lN (Nat.gcd y x) := by
    rw [fa_lt64, l63 hg2]
    have : (0 : Int64).toInt = 0 := by decide
    omega
  have e2 : ¬ lN (Nat.gcd y x) = 0 := fun e => by
    have := (fb_lN_inj (a := Nat.gcd y x) (b := 0) hg2 (by omega)).mp e
    omega
  unfold f_X7_tell
  rw [p_common hx hy, bd_s, if_pos e1, ck_t e2, ck_t hK, nm_s, ck_t e2, l63_div hx hg hg2, l63_div hy hg hg2]
end TELL
