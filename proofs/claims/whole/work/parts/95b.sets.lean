/-! sets -/
def bn : Nat → Nat → Nat
  | _, 0 => 1
  | 0, _ + 1 => 0
  | n + 1, k + 1 => bn n k + bn n (k + 1)
theorem bn_0 (n : Nat) : bn n 0 = 1 := by cases n <;> rfl
theorem bn_s (n k : Nat) : bn (n + 1) (k + 1) = bn n k + bn n (k + 1) := rfl
theorem bn_gt : ∀ {n k : Nat}, n < k → bn n k = 0
  | 0, 0, h => absurd h (by omega)
  | 0, k + 1, _ => rfl
  | n + 1, 0, h => absurd h (by omega)
  | n + 1, k + 1, h => by rw [bn_s, bn_gt (by omega), bn_gt (by omega)]
theorem bn_self : ∀ n, bn n n = 1
  | 0 => rfl
  | n + 1 => by rw [bn_s, bn_self n, bn_gt (by omega)]
theorem bn_pos : ∀ {n k : Nat}, k ≤ n → 0 < bn n k
  | n, 0, _ => by rw [bn_0]; omega
  | 0, k + 1, h => absurd h (by omega)
  | n + 1, k + 1, h => by
    have := bn_pos (n := n) (k := k) (by omega)
    rw [bn_s]; omega
/-- (k + 1) times the sets of k + 1 out of n + 1 -/
theorem bn_abs : ∀ (n k : Nat), (k + 1) * bn (n + 1) (k + 1) = (n + 1) * bn n k
  | 0, 0 => rfl
  | 0, k + 1 => by rw [bn_gt (by omega), bn_gt (by omega)]; rfl
  | n + 1, 0 => by
    have h : 1 * bn (n + 1) 1 = (n + 1) * bn n 0 := bn_abs n 0
    have h2 : bn (n + 2) 1 = bn (n + 1) 0 + bn (n + 1) 1 := rfl
    show 1 * bn (n + 2) 1 = (n + 1 + 1) * bn (n + 1) 0
    rw [bn_0] at h h2 ⊢
    omega
  | n + 1, k + 1 => by
    have h1 := bn_abs n (k + 1)
    have h2 := bn_abs n k
    rw [bn_s (n + 1) (k + 1), Nat.mul_add, h1]
    have h3 := bn_s n k
    rw [show (k + 1 + 1) * bn (n + 1) (k + 1) = (k + 1) * bn (n + 1) (k + 1) + bn (n + 1) (k + 1) by rw [Nat.succ_mul], h2]
    rw [show (n + 1 + 1) * bn (n + 1) (k + 1) = (n + 1) * bn (n + 1) (k + 1) + bn (n + 1) (k + 1) by rw [Nat.succ_mul], h3, Nat.mul_add]
    omega
/-- the next one of a row -/
theorem bn_nx : ∀ (n k : Nat), (k + 1) * bn n (k + 1) = (n - k) * bn n k := fun n k => by
  by_cases h : n < k + 1
  · rw [bn_gt h, show n - k = 0 by omega, Nat.zero_mul]; rfl
  · obtain ⟨m, rfl⟩ : ∃ m, n = m + 1 := ⟨n - 1, by omega⟩
    have h1 := bn_abs m k
    rw [h1]
    -- (m + 1) * bn m k = (m + 1 - k) * bn (m + 1) k
    cases k with
    | zero => rw [bn_0, bn_0, Nat.sub_zero]
    | succ k =>
      have h2 := bn_abs m k
      have h3 := bn_s m k
      have e : (m + 1) * bn (m + 1) (k + 1) = (m + 1) * bn m k + (m + 1) * bn m (k + 1) := by rw [h3, Nat.mul_add]
      have e2 : (m + 1 - (k + 1)) * bn (m + 1) (k + 1) + (k + 1) * bn (m + 1) (k + 1) = (m + 1) * bn (m + 1) (k + 1) := by rw [← Nat.add_mul, Nat.sub_add_cancel (by omega)]
      omega
theorem bn_sym : ∀ {n k : Nat}, k ≤ n → bn n k = bn n (n - k)
  | 0, 0, _ => rfl
  | 0, k + 1, h => absurd h (by omega)
  | n + 1, 0, _ => by rw [bn_0, Nat.sub_zero, bn_self]
  | n + 1, k + 1, h => by
    by_cases e : k = n
    · subst e; rw [bn_self, Nat.sub_self, bn_0]
    · have h1 := bn_sym (n := n) (k := k) (by omega)
      have h2 := bn_sym (n := n) (k := k + 1) (by omega)
      rw [show n + 1 - (k + 1) = (n - (k + 1)) + 1 by omega, bn_s, bn_s, h1, h2, show n - k = n - (k + 1) + 1 by omega]
      omega
theorem bn_up {n k : Nat} : bn n k ≤ bn (n + 1) k := by
  cases k with
  | zero => rw [bn_0, bn_0]; omega
  | succ k => rw [bn_s]; omega
theorem bn_mono {n k : Nat} : ∀ d, bn n k ≤ bn (n + d) k
  | 0 => Nat.le_refl _
  | d + 1 => Nat.le_trans (bn_mono d) bn_up
theorem bn_van : ∀ (a b i j : Nat), bn a i * bn b j ≤ bn (a + b) (i + j)
  | a, b, 0, j => by
    rw [bn_0, Nat.one_mul, Nat.zero_add, Nat.add_comm a b]
    exact bn_mono a
  | 0, b, i + 1, j => by rw [bn_gt (by omega), Nat.zero_mul]; omega
  | a + 1, b, i + 1, j => by
    have h1 := bn_van a b i j
    have h2 := bn_van a b (i + 1) j
    rw [bn_s, Nat.add_mul, show a + 1 + b = a + b + 1 by omega, show i + 1 + j = i + j + 1 by omega, bn_s]
    rw [show i + 1 + j = i + j + 1 by omega] at h2
    omega
theorem bn60_30 : bn 60 30 = 118264581564861424 := by
  have h0 : bn 60 0 = 1 := bn_0 60
  have h1 : bn 60 1 = 60 := by have : 1 * bn 60 1 = 60 * bn 60 0 := bn_nx 60 0; rw [h0] at this; omega
  have h2 : bn 60 2 = 1770 := by have : 2 * bn 60 2 = 59 * bn 60 1 := bn_nx 60 1; rw [h1] at this; omega
  have h3 : bn 60 3 = 34220 := by have : 3 * bn 60 3 = 58 * bn 60 2 := bn_nx 60 2; rw [h2] at this; omega
  have h4 : bn 60 4 = 487635 := by have : 4 * bn 60 4 = 57 * bn 60 3 := bn_nx 60 3; rw [h3] at this; omega
  have h5 : bn 60 5 = 5461512 := by have : 5 * bn 60 5 = 56 * bn 60 4 := bn_nx 60 4; rw [h4] at this; omega
  have h6 : bn 60 6 = 50063860 := by have : 6 * bn 60 6 = 55 * bn 60 5 := bn_nx 60 5; rw [h5] at this; omega
  have h7 : bn 60 7 = 386206920 := by have : 7 * bn 60 7 = 54 * bn 60 6 := bn_nx 60 6; rw [h6] at this; omega
  have h8 : bn 60 8 = 2558620845 := by have : 8 * bn 60 8 = 53 * bn 60 7 := bn_nx 60 7; rw [h7] at this; omega
  have h9 : bn 60 9 = 14783142660 := by have : 9 * bn 60 9 = 52 * bn 60 8 := bn_nx 60 8; rw [h8] at this; omega
  have h10 : bn 60 10 = 75394027566 := by have : 10 * bn 60 10 = 51 * bn 60 9 := bn_nx 60 9; rw [h9] at this; omega
  have h11 : bn 60 11 = 342700125300 := by have : 11 * bn 60 11 = 50 * bn 60 10 := bn_nx 60 10; rw [h10] at this; omega
  have h12 : bn 60 12 = 1399358844975 := by have : 12 * bn 60 12 = 49 * bn 60 11 := bn_nx 60 11; rw [h11] at this; omega
  have h13 : bn 60 13 = 5166863427600 := by have : 13 * bn 60 13 = 48 * bn 60 12 := bn_nx 60 12; rw [h12] at this; omega
  have h14 : bn 60 14 = 17345898649800 := by have : 14 * bn 60 14 = 47 * bn 60 13 := bn_nx 60 13; rw [h13] at this; omega
  have h15 : bn 60 15 = 53194089192720 := by have : 15 * bn 60 15 = 46 * bn 60 14 := bn_nx 60 14; rw [h14] at this; omega
  have h16 : bn 60 16 = 149608375854525 := by have : 16 * bn 60 16 = 45 * bn 60 15 := bn_nx 60 15; rw [h15] at this; omega
  have h17 : bn 60 17 = 387221678682300 := by have : 17 * bn 60 17 = 44 * bn 60 16 := bn_nx 60 16; rw [h16] at this; omega
  have h18 : bn 60 18 = 925029565741050 := by have : 18 * bn 60 18 = 43 * bn 60 17 := bn_nx 60 17; rw [h17] at this; omega
  have h19 : bn 60 19 = 2044802197953900 := by have : 19 * bn 60 19 = 42 * bn 60 18 := bn_nx 60 18; rw [h18] at this; omega
  have h20 : bn 60 20 = 4191844505805495 := by have : 20 * bn 60 20 = 41 * bn 60 19 := bn_nx 60 19; rw [h19] at this; omega
  have h21 : bn 60 21 = 7984465725343800 := by have : 21 * bn 60 21 = 40 * bn 60 20 := bn_nx 60 20; rw [h20] at this; omega
  have h22 : bn 60 22 = 14154280149473100 := by have : 22 * bn 60 22 = 39 * bn 60 21 := bn_nx 60 21; rw [h21] at this; omega
  have h23 : bn 60 23 = 23385332420868600 := by have : 23 * bn 60 23 = 38 * bn 60 22 := bn_nx 60 22; rw [h22] at this; omega
  have h24 : bn 60 24 = 36052387482172425 := by have : 24 * bn 60 24 = 37 * bn 60 23 := bn_nx 60 23; rw [h23] at this; omega
  have h25 : bn 60 25 = 51915437974328292 := by have : 25 * bn 60 25 = 36 * bn 60 24 := bn_nx 60 24; rw [h24] at this; omega
  have h26 : bn 60 26 = 69886166503903470 := by have : 26 * bn 60 26 = 35 * bn 60 25 := bn_nx 60 25; rw [h25] at this; omega
  have h27 : bn 60 27 = 88004802264174740 := by have : 27 * bn 60 27 = 34 * bn 60 26 := bn_nx 60 26; rw [h26] at this; omega
  have h28 : bn 60 28 = 103719945525634515 := by have : 28 * bn 60 28 = 33 * bn 60 27 := bn_nx 60 27; rw [h27] at this; omega
  have h29 : bn 60 29 = 114449595062769120 := by have : 29 * bn 60 29 = 32 * bn 60 28 := bn_nx 60 28; rw [h28] at this; omega
  have h30 : bn 60 30 = 118264581564861424 := by have : 30 * bn 60 30 = 31 * bn 60 29 := bn_nx 60 29; rw [h29] at this; omega
  exact h30
theorem bn_le30 : ∀ d k, k + d = 30 → bn 60 k ≤ bn 60 30
  | 0, k, h => by rw [show k = 30 by omega]; exact Nat.le_refl _
  | d + 1, k, h => by
    have h1 := bn_le30 d (k + 1) (by omega)
    have h2 := bn_nx 60 k
    refine Nat.le_trans ?_ h1
    refine Nat.le_of_mul_le_mul_left (c := k + 1) ?_ (by omega)
    rw [h2]
    exact Nat.mul_le_mul_right _ (by omega)
theorem bn_le (n k : Nat) (hn : n ≤ 60) : bn n k ≤ 118264581564861424 := by
  have h := bn_mono (n := n) (k := k) (60 - n)
  rw [show n + (60 - n) = 60 by omega] at h
  refine Nat.le_trans h ?_
  rw [← bn60_30]
  by_cases h30 : k ≤ 30
  · exact bn_le30 (30 - k) k (by omega)
  · by_cases h60 : k ≤ 60
    · rw [bn_sym h60]
      exact bn_le30 (30 - (60 - k)) (60 - k) (by omega)
    · rw [bn_gt (by omega)]; omega
section CHOOSE
variable {M : Mm}
theorem p_choose_lp {m f : Nat} (hm : m + f ≤ 60) (hf : f ≤ 30) : ∀ (d i n : Nat), i + d = f → d < n → f_X7_choose_24 n (nI (m + f)) (nI f) (lN (bn (m + i) i)) (nI (i + 1)) M = some (lN (bn (m + f) f), M) := by
  intro d
  induction d with
  | zero =>
    intro i n hi hn
    obtain ⟨n, rfl⟩ : ∃ m, n = m + 1 := ⟨n - 1, by omega⟩
    have hi : i = f := by omega
    subst hi
    simp (disch := omega) only [f_X7_choose_24, reduceIte, ↓reduceIte, ↓ck_i, ↓nm_s, ↓bR_i, ↓bd_i, Option.isSome_some, Option.getD_some, gK, gR, gN, gIs, inb_nI, and_self, nI_clamp, fa_lit, pk_mul, nI_add, n10, n1z, n00, eq_self, not_true_eq_false, not_false_eq_true, nI_ltI, Nat.lt_succ_self]
  | succ d ih =>
    intro i n hi hn
    obtain ⟨n, rfl⟩ : ∃ m, n = m + 1 := ⟨n - 1, by omega⟩
    have ih := ih (i + 1) n (by omega) (by omega)
    have e1 : ¬ f < i + 1 := by omega
    have e2 : m + f - f + (i + 1) = m + i + 1 := by omega
    have ab := bn_abs (m + i) i
    have bl := bn_le (m + i + 1) (i + 1) (by omega)
    have mb : (i + 1) * bn (m + i + 1) (i + 1) ≤ 30 * 118264581564861424 := Nat.mul_le_mul (by omega) bl
    have e3 : bn (m + i) i * (m + i + 1) = (i + 1) * bn (m + i + 1) (i + 1) := by rw [ab, Nat.mul_comm]
    have e4 : (i + 1) * bn (m + i + 1) (i + 1) / (i + 1) = bn (m + i + 1) (i + 1) := Nat.mul_div_cancel_left _ (by omega)
    have ne : ¬ lN (i + 1) = lN 0 := by rw [pk_lEQ (by omega) (by omega)]; omega
    rw [← ih]
    simp (disch := omega) only [f_X7_choose_24, reduceIte, ↓reduceIte, ↓ck_i, ↓nm_s, ↓bR_i, ↓bd_i, Option.isSome_some, Option.getD_some, gK, gR, gN, gIs, inb_nI, and_self, nI_clamp, fa_lit, pk_mul, nI_add, n10, n1z, n00, eq_self, not_true_eq_false, not_false_eq_true, nI_ltI, e1, pk_sub, e2, nI_l, fa_litL, ne, lN_mul, e3, pk_lDiv, e4, ← Nat.add_assoc]
theorem p_choose {n k : Nat} (hn : n ≤ 60) (hk : k ≤ n) : f_X7_choose (nI n) (nI k) M = some (lN (bn n k), M) := by
  have h0 : ¬ k < 0 := by omega
  have h := p_choose_lp (M := M) (m := n - min k (n - k)) (f := min k (n - k)) (by omega) (by omega) (min k (n - k)) 0 FU (by omega) (by unfold FU; omega)
  rw [show n - min k (n - k) + min k (n - k) = n by omega, show n - min k (n - k) + 0 = n - min k (n - k) from rfl, bn_0] at h
  have e : bn n (min k (n - k)) = bn n k := by
    by_cases hc : k ≤ n - k
    · rw [Nat.min_eq_left hc]
    · rw [Nat.min_eq_right (by omega), ← bn_sym hk]
  rw [e] at h
  rw [← h]
  simp (disch := omega) only [f_X7_choose, reduceIte, ↓reduceIte, ↓ck_i, ↓nm_s, ↓bR_i, ↓bd_i, Option.isSome_some, Option.getD_some, gK, gR, gN, gIs, inb_nI, and_self, nI_clamp, fa_lit, pk_mul, nI_add, n10, n1z, n00, eq_self, not_true_eq_false, not_false_eq_true, nI_ltI, nI_leI, h0, hk, pk_sub, j_min, fa_litL, Nat.zero_add]
theorem q_choose_lp {m f : Nat} (hm : m + f ≤ 60) : ∀ (d i n : Nat), i + d = f → d < n → f_X8_choose_18 n (nI (m + f)) (nI f) (lN (bn (m + i) i)) (nI (i + 1)) M = some (lN (bn (m + f) f), M) := by
  intro d
  induction d with
  | zero =>
    intro i n hi hn
    obtain ⟨n, rfl⟩ : ∃ m, n = m + 1 := ⟨n - 1, by omega⟩
    have hi : i = f := by omega
    subst hi
    simp (disch := omega) only [f_X8_choose_18, reduceIte, ↓reduceIte, ↓ck_i, ↓nm_s, ↓bR_i, ↓bd_i, Option.isSome_some, Option.getD_some, gK, gR, gN, gIs, inb_nI, and_self, nI_clamp, fa_lit, pk_mul, nI_add, n10, n1z, n00, eq_self, not_true_eq_false, not_false_eq_true, nI_ltI, Nat.lt_succ_self]
  | succ d ih =>
    intro i n hi hn
    obtain ⟨n, rfl⟩ : ∃ m, n = m + 1 := ⟨n - 1, by omega⟩
    have ih := ih (i + 1) n (by omega) (by omega)
    have e1 : ¬ f < i + 1 := by omega
    have e2 : m + f - f + (i + 1) = m + i + 1 := by omega
    have ab := bn_abs (m + i) i
    have bl := bn_le (m + i) i (by omega)
    have bl2 := bn_le (m + i + 1) (i + 1) (by omega)
    have cm := q_common (M := M) (x := bn (m + i) i) (y := i + 1) (by omega) (by omega)
    have gp : 0 < Nat.gcd (i + 1) (bn (m + i) i) := Nat.gcd_pos_of_pos_left _ (by omega)
    have gd1 := Nat.gcd_dvd_left (i + 1) (bn (m + i) i)
    have gd2 := Nat.gcd_dvd_right (i + 1) (bn (m + i) i)
    have gle := Nat.gcd_le_left (bn (m + i) i) (show 0 < i + 1 by omega)
    generalize hg : Nat.gcd (i + 1) (bn (m + i) i) = g at *
    have cop : Nat.Coprime ((i + 1) / g) (bn (m + i) i / g) := by
      have := Nat.coprime_div_gcd_div_gcd (m := i + 1) (n := bn (m + i) i) (by rw [hg]; exact gp)
      rw [hg] at this
      exact this
    obtain ⟨a, ha⟩ := gd1
    obtain ⟨b, hb⟩ := gd2
    have ea : (i + 1) / g = a := by rw [ha, Nat.mul_div_cancel_left _ gp]
    have eb : bn (m + i) i / g = b := by rw [hb, Nat.mul_div_cancel_left _ gp]
    rw [ea, eb] at cop
    have ap : 0 < a := Nat.pos_of_ne_zero (fun h => by rw [h] at ha; omega)
    have key : a * bn (m + i + 1) (i + 1) = b * (m + i + 1) := by
      refine Nat.eq_of_mul_eq_mul_left gp ?_
      rw [← Nat.mul_assoc, ← ha, ab, ← Nat.mul_assoc, ← hb, Nat.mul_comm]
    obtain ⟨q, hq⟩ := cop.dvd_of_dvd_mul_left ⟨bn (m + i + 1) (i + 1), key.symm⟩
    have eq1 : (m + i + 1) / a = q := by rw [hq, Nat.mul_div_cancel_left _ ap]
    have eq2 : b * q = bn (m + i + 1) (i + 1) := by
      refine Nat.eq_of_mul_eq_mul_left ap ?_
      rw [key, hq]
      rw [← Nat.mul_assoc, ← Nat.mul_assoc, Nat.mul_comm a b]
    have ale : a ≤ i + 1 := by rw [← ea]; exact Nat.div_le_self _ _
    have ne : ¬ lN g = lN 0 := by rw [pk_lEQ (by omega) (by omega)]; omega
    have na : ¬ lN a = lN 0 := by rw [pk_lEQ (by omega) (by omega)]; omega
    rw [← ih]
    simp (disch := omega) only [f_X8_choose_18, reduceIte, ↓reduceIte, ↓ck_i, ↓nm_s, ↓bR_i, ↓bd_i, Option.isSome_some, Option.getD_some, gK, gR, gN, gIs, inb_nI, and_self, nI_clamp, fa_lit, pk_mul, nI_add, n10, n1z, n00, eq_self, not_true_eq_false, not_false_eq_true, nI_ltI, e1, pk_sub, e2, nI_l, cm, fa_litL, ne, pk_lDiv, ea, eb, na, eq1, lN_mul, eq2, ← Nat.add_assoc]
theorem q_choose {n k : Nat} (hn : n ≤ 60) (hk : k ≤ n) : f_X8_choose (nI n) (nI k) M = some (lN (bn n k), M) := by
  have h := q_choose_lp (M := M) (m := n - k) (f := k) (by omega) k 0 FU (by omega) (by unfold FU; omega)
  rw [show n - k + k = n by omega, show n - k + 0 = n - k from rfl, bn_0] at h
  rw [← h]
  have iw := wi_y (M := M) (n := n) (j := k) (by omega) hk
  simp (disch := omega) only [f_X8_choose, reduceIte, ↓reduceIte, ↓ck_i, ↓nm_s, ↓bR_i, ↓bd_i, Option.isSome_some, Option.getD_some, gK, gR, gN, gIs, inb_nI, and_self, nI_clamp, fa_lit, pk_mul, nI_add, n10, n1z, n00, eq_self, not_true_eq_false, not_false_eq_true, nI_l, fa_litL, Nat.zero_add]
  rw [nI_l (by omega)] at iw
  simp (disch := omega) only [reduceIte, ↓reduceIte, ↓ck_i, ↓nm_s, ↓bR_i, ↓bd_i, Option.isSome_some, Option.getD_some, gK, gR, gN, gIs, inb_nI, and_self, nI_clamp, fa_lit, pk_mul, nI_add, n10, n1z, n00, eq_self, not_true_eq_false, not_false_eq_true, iw, fa_litL]
theorem q_choose_gt {n k : Nat} (hn : n ≤ 60) (hk : n < k) (hk2 : k < 100) : f_X8_choose (nI n) (nI k) M = some (lN 0, M) := by
  have iw := wi_n (M := M) (n := n) (x := nI k) (by omega) (Or.inr ⟨nI_pos (by omega), by rw [nI_leI (by omega) (by omega)]; omega⟩)
  simp (disch := omega) only [f_X8_choose, reduceIte, ↓reduceIte, ↓ck_i, ↓nm_s, ↓bR_i, ↓bd_i, Option.isSome_some, Option.getD_some, gK, gR, gN, gIs, inb_nI, and_self, nI_clamp, fa_lit, pk_mul, nI_add, n10, n1z, n00, eq_self, not_true_eq_false, not_false_eq_true, nI_l, fa_litL]
  rw [nI_l (by omega)] at iw
  simp (disch := omega) only [reduceIte, ↓reduceIte, ↓ck_i, ↓nm_s, ↓bR_i, ↓bd_i, Option.isSome_some, Option.getD_some, gK, gR, gN, gIs, inb_nI, and_self, nI_clamp, fa_lit, pk_mul, nI_add, n10, n1z, n00, eq_self, not_true_eq_false, not_false_eq_true, iw, fa_litL]
theorem p_choose_gt {n k : Nat} (hn : n ≤ 60) (hk : n < k) (hk2 : k < 100) : f_X7_choose (nI n) (nI k) M = some (lN 0, M) := by
  have h0 : ¬ k < 0 := by omega
  have h1 : ¬ k ≤ n := by omega
  simp (disch := omega) only [f_X7_choose, reduceIte, ↓reduceIte, ↓ck_i, ↓nm_s, ↓bR_i, ↓bd_i, Option.isSome_some, Option.getD_some, gK, gR, gN, gIs, inb_nI, and_self, nI_clamp, fa_lit, pk_mul, nI_add, n10, n1z, n00, eq_self, not_true_eq_false, not_false_eq_true, nI_ltI, nI_leI, h0, h1, fa_litL]
theorem q_choose_neg {n a b : Nat} (hn : n ≤ 60) (hab : a < b) (hb : b < 100) : f_X8_choose (nI n) (nI a - nI b) M = some (lN 0, M) := by
  have iw := wi_n (M := M) (n := n) (x := nI a - nI b) (by omega) (Or.inl (pk_sneg (by omega) hab))
  simp (disch := omega) only [f_X8_choose, reduceIte, ↓reduceIte, ↓ck_i, ↓nm_s, ↓bR_i, ↓bd_i, Option.isSome_some, Option.getD_some, gK, gR, gN, gIs, inb_nI, and_self, nI_clamp, fa_lit, pk_mul, nI_add, n10, n1z, n00, eq_self, not_true_eq_false, not_false_eq_true, nI_l, fa_litL]
  rw [iw]
  simp (disch := omega) only [reduceIte, ↓reduceIte, ↓ck_i, ↓nm_s, ↓bR_i, ↓bd_i, Option.isSome_some, Option.getD_some, gK, gR, gN, gIs, inb_nI, and_self, nI_clamp, fa_lit, pk_mul, nI_add, n10, n1z, n00, eq_self, not_true_eq_false, not_false_eq_true, fa_litL]
theorem p_ch {n k : Nat} (hn : n ≤ 60) (hk : k < 100) : f_X7_choose (nI n) (nI k) M = some (lN (bn n k), M) := by
  by_cases h : k ≤ n
  · exact p_choose hn h
  · rw [p_choose_gt hn (by omega) hk, bn_gt (by omega)]
theorem q_ch {n k : Nat} (hn : n ≤ 60) (hk : k < 100) : f_X8_choose (nI n) (nI k) M = some (lN (bn n k), M) := by
  by_cases h : k ≤ n
  · exact q_choose hn h
  · rw [q_choose_gt hn (by omega) hk, bn_gt (by omega)]
end CHOOSE
