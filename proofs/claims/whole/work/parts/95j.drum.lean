/-! the drum: numbers that stand, by their places -/
def tuS (x : Nat) : Nat := 48271 * x % 2147483647
def rmv (p : Nat → Bool) (k : Nat) : Nat → Bool := fun j => if j = k then false else p j
/-- the number that has a place -/
def kt (p : Nat → Bool) (n i : Nat) : Nat := fa_first (fun k => p k && decide (fb_ct p k = i)) n
theorem tuS_le (x : Nat) : tuS x ≤ 2147483646 := by
  have := Nat.mod_lt (48271 * x) (show 0 < 2147483647 by decide)
  unfold tuS; omega
theorem tuS_pos {x : Nat} (h1 : 1 ≤ x) (h2 : x ≤ 2147483646) : 1 ≤ tuS x := by
  refine Nat.pos_of_ne_zero (fun h => ?_)
  have hd : 2147483647 ∣ 48271 * x := Nat.dvd_of_mod_eq_zero h
  have hc : Nat.Coprime 2147483647 48271 := by decide
  have := Nat.le_of_dvd (by omega) (hc.dvd_of_dvd_mul_left hd)
  omega
theorem kt_spec {p : Nat → Bool} {n i : Nat} (h : i < fb_ct p n) : kt p n i < n ∧ p (kt p n i) = true ∧ fb_ct p (kt p n i) = i := by
  obtain ⟨k, hk, pk, ck⟩ := fb_ct_kth h
  have hlt : kt p n i < n := by
    refine Nat.lt_of_le_of_ne (fa_first_le _ _) (fun e => ?_)
    have := fa_first_no (fun k => p k && decide (fb_ct p k = i)) n k (by unfold kt at e; rw [e]; exact hk)
    rw [pk, decide_eq_true ck] at this
    exact absurd this (by decide)
  have hy := fa_first_yes (fun k => p k && decide (fb_ct p k = i)) n hlt
  have hy2 : (p (kt p n i) && decide (fb_ct p (kt p n i) = i)) = true := hy
  rw [Bool.and_eq_true, decide_eq_true_eq] at hy2
  exact ⟨hlt, hy2.1, hy2.2⟩
theorem rmv_lt {p : Nat → Bool} {k j : Nat} (h : j ≤ k) : fb_ct (rmv p k) j = fb_ct p j := fb_ct_out p false h
theorem rmv_gt {p : Nat → Bool} {k j : Nat} (hp : p k = true) (h : k < j) : fb_ct (rmv p k) j + 1 = fb_ct p j := by
  have := fb_ct_upd p false h
  rw [hp] at this
  exact this
def DR (B : Nat) (M : Mm) (p : Nat → Bool) (n : Nat) : Prop := M.1 (B + 53) 1 = nI (fb_ct p n) ∧ ∀ k, k < n → p k = true → M.1 (B + 54) (fb_ct p k) = nI (k + 1)
def KD (B : Nat) (M N : Mm) : Prop := N.2 = M.2 ∧ ∀ a, a ≠ B + 53 → a ≠ B + 54 → N.1 a = M.1 a
section DRUM
variable {B t c l : Nat} {T S : Nat → Nat} {M N P : Mm} {p : Nat → Bool} {n : Nat}
theorem KD.tr (h : KD B M N) (g : KD B N P) : KD B M P := ⟨g.1.trans h.1, fun a h1 h2 => (g.2 a h1 h2).trans (h.2 a h1 h2)⟩
theorem tu_eq {x : Nat} (hx : x ≤ 2147483646) : (((48271 : Int64) * (nI x).toInt64) - ((48271 : Int64) * (nI x).toInt64) / (2147483647 : Int64) * (2147483647 : Int64)).toInt32 = nI (tuS x) := by
  rw [nI_l (by omega), show (48271 : Int64) = lN 48271 from rfl, show (2147483647 : Int64) = lN 2147483647 from rfl, lN_mul, l63_rem (by omega) (by decide) (by decide), lN_i]
  rfl
theorem fm_eq {a b : Nat} (ha : a < 2 ^ 31) (hb : b < 2 ^ 31) (h0 : 0 < b) (M : Mm) : f_J9_floorMod_7cf53 (nI a) (nI b) M = some (nI (a % b), M) := by
  have ne : ¬ nI b = 0 := nI_ne0 h0 hb
  have xo : 0 ≤ nI a ^^^ nI b := by
    rw [fb_xorI]
    exact nI_pos' (Nat.xor_lt_two_pow ha hb)
  rw [f_J9_floorMod_7cf53, ck_t ne, nm_s, pk_rem ha h0 hb, if_pos xo]
/-- numbers move down -/
theorem p_move (hC : CmD B M.2.2) {L at0 : Nat} {v : Int32} (hL : L < 60) (h1 : M.1 (B + 53) 1 = nI L) : ∀ (d i m : Nat) (N : Mm), i + d = L ∨ (d = 0 ∧ L ≤ i) → i ≤ 60 → at0 ≤ i → d < m → KD B M N → N.1 (B + 53) = M.1 (B + 53) → (∀ j, N.1 (B + 54) j = if at0 ≤ j ∧ j < i then M.1 (B + 54) (j + 1) else M.1 (B + 54) j) → ∃ P, f_X1_draw_58 m (B + 53) v (nI i) N = some (v, P) ∧ KD B M P ∧ P.1 (B + 53) = M.1 (B + 53) ∧ ∀ j, P.1 (B + 54) j = if at0 ≤ j ∧ j < max L i then M.1 (B + 54) (j + 1) else M.1 (B + 54) j := by
  intro d
  induction d with
  | zero =>
    intro i m N hi hi6 hat hm k hb ha
    obtain ⟨m, rfl⟩ : ∃ q, m = q + 1 := ⟨m - 1, by omega⟩
    have hs : N.2.2 = M.2.2 := by rw [k.1]
    have e : L ≤ i := by omega
    refine ⟨N, ?_, k, hb, ?_⟩
    · rw [← hb] at h1
      simp (disch := omega) only [f_X1_draw_58, reduceIte, ↓reduceIte, ↓ck_i, ↓nm_s, ↓bR_i, ↓bd_i, Option.isSome_some, Option.getD_some, gK, gR, gN, gIs, inb_nI, and_self, nI_clamp, fa_lit, pk_mul, nI_add, n10, n1z, n00, eq_self, not_true_eq_false, not_false_eq_true, hC.a, hs, h1, nI_leI, e]
    · rw [show max L i = i by omega]; exact ha
  | succ d ih =>
    intro i m N hi hi6 hat hm k hb ha
    obtain ⟨m, rfl⟩ : ∃ q, m = q + 1 := ⟨m - 1, by omega⟩
    have hs : N.2.2 = M.2.2 := by rw [k.1]
    have e : ¬ L ≤ i := by omega
    obtain ⟨P, eP, p1, p2, p3⟩ := ih (i + 1) m (sI N (B + 54) i (N.1 (B + 54) (i + 1))) (by omega) (by omega) (by omega) (by omega) ⟨k.1, fun a a1 a2 => by rw [sI_ne a2]; exact k.2 a a1 a2⟩ (by rw [sI_ne (by omega)]; exact hb) (fun j => by
      by_cases ej : j = i
      · subst ej
        rw [sI_hit, if_pos (by omega), ha (j + 1), if_neg (by omega)]
      · rw [sI_oth ej, ha j]
        by_cases h2 : at0 ≤ j ∧ j < i
        · rw [if_pos h2, if_pos (by omega)]
        · rw [if_neg h2, if_neg (by omega)])
    refine ⟨P, ?_, p1, p2, ?_⟩
    · rw [← eP]
      rw [← hb] at h1
      simp (disch := omega) only [f_X1_draw_58, reduceIte, ↓reduceIte, ↓ck_i, ↓nm_s, ↓bR_i, ↓bd_i, Option.isSome_some, Option.getD_some, gK, gR, gN, gIs, inb_nI, and_self, nI_clamp, fa_lit, pk_mul, nI_add, n10, n1z, n00, eq_self, not_true_eq_false, not_false_eq_true, hC.a, hs, h1, nI_leI, e]
    · rw [show max L (i + 1) = L by omega] at p3
      rw [show max L i = L by omega]
      exact p3
theorem p_draw (hC : CmD B M.2.2) (hD : DR B M p n) (hn : n ≤ 60) {x : Nat} (hx : x ≤ 2147483646) (h2 : M.1 (B + 53) 2 = nI x) (hL : 0 < fb_ct p n) : ∃ N, f_X1_draw (B + 53) M = some (nI (kt p n (tuS x % fb_ct p n) + 1), N) ∧ DR B N (rmv p (kt p n (tuS x % fb_ct p n))) n ∧ N.1 (B + 53) 2 = nI (tuS x) ∧ KD B M N := by
  have hle := fb_ct_le p n
  have hm := Nat.mod_lt (tuS x) hL
  obtain ⟨k1, k2, k3⟩ := kt_spec hm
  have tl := tuS_le x
  have e1 := hD.1
  have e4 := hD.2 _ k1 k2
  rw [k3] at e4
  generalize hk : kt p n (tuS x % fb_ct p n) = k at *
  have fm : ∀ M : Mm, f_J9_floorMod_7cf53 (nI (tuS x)) (nI (fb_ct p n)) M = some (nI (tuS x % fb_ct p n), M) := fm_eq (by omega) (by omega) hL
  have tq := tu_eq hx
  have hs1 : nI (fb_ct p n) - 1 = nI (fb_ct p n - 1) := by
    rw [show (1 : Int32) = nI 1 from rfl, pk_sub (by omega)]
  have hCa : CmD B (sI (sI M (B + 53) 2 (nI (tuS x))) (B + 53) 1 (nI (fb_ct p n - 1))).2.2 := hC
  obtain ⟨P, eP, p1, p2, p3⟩ := p_move (M := sI (sI M (B + 53) 2 (nI (tuS x))) (B + 53) 1 (nI (fb_ct p n - 1))) (L := fb_ct p n - 1) (at0 := tuS x % fb_ct p n) (v := nI (k + 1)) hCa (by omega) sI_hit (fb_ct p n - 1 - tuS x % fb_ct p n) (tuS x % fb_ct p n) FU _ (by omega) (by omega) (by omega) (by unfold FU; omega) ⟨rfl, fun _ _ _ => rfl⟩ rfl (fun j => by rw [if_neg (by omega)])
  rw [show max (fb_ct p n - 1) (tuS x % fb_ct p n) = fb_ct p n - 1 by omega] at p3
  have g := rmv_gt (p := p) (k := k) (j := n) k2 k1
  refine ⟨P, ?_, ⟨?_, fun j hj hr => ?_⟩, by rw [p2, sI_oth (by omega), sI_hit], ⟨p1.1, fun a a1 a2 => by rw [p1.2 a a1 a2, sI_ne a1, sI_ne a1]⟩⟩
  · have c1 : (0 : Int32) < nI (fb_ct p n) := by
      show nI 0 < _
      rw [nI_ltI (by omega) (by omega)]; exact hL
    have kk : gK M (B + 53) = 1 := by show M.2.2.2.1 _ = _; simp only [hC.a]
    have kk1 : gK (sI M (B + 53) 2 (nI (tuS x))) (B + 53) = 1 := kk
    have rr : gR (sI M (B + 53) 2 (nI (tuS x))) (B + 53) 0 = some (B + 54) := by show M.2.2.1 _ _ = _; simp only [hC.a]
    have ki : gK (sI M (B + 53) 2 (nI (tuS x))) (B + 54) = 10 ∧ inb (nI (tuS x % fb_ct p n)) (gN (sI M (B + 53) 2 (nI (tuS x))) (B + 54)) := ⟨by show M.2.2.2.1 _ = _; simp only [hC.a], by rw [show gN (sI M (B + 53) 2 (nI (tuS x))) (B + 54) = 60 by show M.2.2.2.2.1 _ = _; simp only [hC.a]]; exact nI_in (by omega) (by omega)⟩
    have g1 : gI (sI M (B + 53) 2 (nI (tuS x))) (B + 53) 1 = nI (fb_ct p n) := by
      show (sI M (B + 53) 2 (nI (tuS x))).1 (B + 53) 1 = _
      rw [sI_oth (by omega)]; exact e1
    have g2 : gI (sI M (B + 53) 2 (nI (tuS x))) (B + 53) 2 = nI (tuS x) := sI_hit
    have g4 : gI (sI M (B + 53) 2 (nI (tuS x))) (B + 54) (tuS x % fb_ct p n) = nI (k + 1) := by
      show (sI M (B + 53) 2 (nI (tuS x))).1 (B + 54) _ = _
      rw [sI_ne (by omega)]; exact e4
    rw [f_X1_draw, ck_t kk, show gI M (B + 53) 1 = nI (fb_ct p n) from e1, if_pos c1, ck_t kk, ck_t (show ¬ (2147483647 : Int64) = 0 by decide), ck_t kk, show gI M (B + 53) 2 = nI x from h2, tq, nm_s, ck_t kk1, ck_t kk1, g1, g2, fm, bd_s, ck_t kk1, rr, bR_s, ck_t ki, nm_s, nI_clamp (by omega), g4, ck_t kk1, ck_t kk1, nm_s, g1, hs1]
    exact eP
  · rw [p2, sI_hit]
    exact congrArg nI (by omega)
  · rw [p3]
    have hjk : j ≠ k := fun e => by
      rw [e] at hr
      unfold rmv at hr
      rw [if_pos rfl] at hr
      exact absurd hr (by decide)
    have hpj : p j = true := by
      unfold rmv at hr
      rw [if_neg hjk] at hr
      exact hr
    rw [sI_ne (by omega), sI_ne (by omega)]
    by_cases hlt : j < k
    · rw [rmv_lt (by omega)]
      have h3 : fb_ct p j < tuS x % fb_ct p n := by
        have h4 := fb_ct_mono p (m := j + 1) (n := k) (by omega)
        rw [fb_ct_succ, hpj, if_pos rfl] at h4
        omega
      rw [if_neg (by omega)]
      exact hD.2 j hj hpj
    · have g2 := rmv_gt (p := p) (k := k) (j := j) k2 (by omega)
      have h4 := fb_ct_mono p (m := k + 1) (n := j) (by omega)
      rw [fb_ct_succ, k2, if_pos rfl] at h4
      have h5 := fb_ct_mono p (m := j + 1) (n := n) (by omega)
      rw [fb_ct_succ, hpj, if_pos rfl] at h5
      rw [if_pos (by omega), g2]
      exact hD.2 j hj hpj
/-- who stood at the beginning of a year -/
def stp (S : Nat → Nat) (l y k : Nat) : Bool := decide (S (480 + 60 * l + k) = 0) || decide (y ≤ S (480 + 60 * l + k))
theorem p_load_lp (hT : t + 14 ≤ B + 44) (hB : t ≠ B) (hl : l < T 0) {y : Nat} (hy : y < 100) : ∀ (d k m : Nat) (M : Mm), k + d = T (12 + 7 * l) → d < m → CV B t M T S → M.1 (B + 53) 1 = nI (fb_ct (stp S l y) k) → (∀ j, j < k → stp S l y j = true → M.1 (B + 54) (fb_ct (stp S l y) j) = nI (j + 1)) → ∃ N, f_X1_load_14 m (B + 53) t (B + 15) (nI l) (nI y) (nI (k + 1)) M = some ((), N) ∧ DR B N (stp S l y) (T (12 + 7 * l)) ∧ KD B M N ∧ N.1 (B + 53) 2 = M.1 (B + 53) 2 := by
  intro d
  induction d with
  | zero =>
    intro k m M hk hm hQ h1 h2
    obtain ⟨m, rfl⟩ : ∃ q, m = q + 1 := ⟨m - 1, by omega⟩
    have w := (hQ.2.2.2.2.1.2.2 l hl).2.1
    have w0 := hQ.2.2.2.2.1.1
    have c2 := (hQ.2.2.2.2.2.1.2.2.1 l hl).1
    have hk : k = T (12 + 7 * l) := by omega
    subst hk
    refine ⟨M, ?_, ⟨h1, h2⟩, ⟨rfl, fun _ _ _ => rfl⟩, rfl⟩
    simp (disch := omega) only [f_X1_load_14, reduceIte, ↓reduceIte, ↓ck_i, ↓nm_s, ↓bR_i, ↓bd_i, Option.isSome_some, Option.getD_some, gK, gR, gN, gIs, inb_nI, and_self, nI_clamp, fa_lit, pk_mul, nI_add, n10, n1z, n00, eq_self, not_true_eq_false, not_false_eq_true, hQ.2.2.1, c2, nI_ltI, Nat.lt_succ_self]
  | succ d ih =>
    intro k m M hk hm hQ h1 h2
    obtain ⟨m, rfl⟩ : ∃ q, m = q + 1 := ⟨m - 1, by omega⟩
    have w := (hQ.2.2.2.2.1.2.2 l hl).2.1
    have w0 := hQ.2.2.2.2.1.1
    have c2 := (hQ.2.2.2.2.2.1.2.2.1 l hl).1
    have hC : CmD B M.2.2 := hQ.1
    have hk2 : ¬ T (12 + 7 * l) < k + 1 := by omega
    have s8 := (hQ.2.2.2.2.2.2.1.2.2.2.2 l hl k (by omega)).2.2.1
    have v8 := (hQ.2.2.2.2.2.2.2.2.2.2.2 l hl k (by omega)).2.2.1
    have cle := fb_ct_le (stp S l y) k
    have e60 : ¬ 60 ≤ fb_ct (stp S l y) k := by omega
    by_cases hp : stp S l y k = true
    · have k1 : KD B M (sI (sI M (B + 54) (fb_ct (stp S l y) k) (nI (k + 1))) (B + 53) 1 (nI (fb_ct (stp S l y) k + 1))) := ⟨rfl, fun a a1 a2 => by rw [sI_ne a1, sI_ne a2]⟩
      obtain ⟨N, eN, n1, n2, n3⟩ := ih (k + 1) m (sI (sI M (B + 54) (fb_ct (stp S l y) k) (nI (k + 1))) (B + 53) 1 (nI (fb_ct (stp S l y) k + 1))) (by omega) (by omega) (hQ.kp hT hB rfl (fun a ha => k1.2 a (by omega) (by omega))) (by rw [fb_ct_succ, hp, if_pos rfl, sI_hit]) (fun j hj hpj => by
        rw [sI_ne (by omega)]
        by_cases e : j = k
        · subst e; rw [sI_hit]
        · have h5 := fb_ct_mono (stp S l y) (m := j + 1) (n := k) (by omega)
          rw [fb_ct_succ, hpj, if_pos rfl] at h5
          rw [sI_oth (by omega)]
          exact h2 j (by omega) hpj)
      refine ⟨N, ?_, n1, k1.tr n2, by rw [n3, sI_oth (by omega), sI_ne (by omega)]⟩
      rw [← eN]
      have hp2 := hp
      unfold stp at hp2
      rw [Bool.or_eq_true, decide_eq_true_eq, decide_eq_true_eq] at hp2
      by_cases z : S (480 + 60 * l + k) = 0
      · rw [z] at s8
        simp (disch := omega) only [f_X1_load_14, f_X1_load_59, reduceIte, ↓reduceIte, ↓ck_i, ↓nm_s, ↓bR_i, ↓bd_i, Option.isSome_some, Option.getD_some, gK, gR, gN, gIs, inb_nI, and_self, nI_clamp, fa_lit, pk_mul, nI_add, n10, n1z, n00, eq_self, not_true_eq_false, not_false_eq_true, hC.a, hQ.2.2.1, hQ.2.2.2.1, c2, nI_ltI, nI_leI, hk2, p_spotOf, s8, h1, e60, sI_sh, sI_ne]
      · have z2 : ¬ S (480 + 60 * l + k) < y := by omega
        simp (disch := omega) only [f_X1_load_14, f_X1_load_59, reduceIte, ↓reduceIte, ↓ck_i, ↓nm_s, ↓bR_i, ↓bd_i, Option.isSome_some, Option.getD_some, gK, gR, gN, gIs, inb_nI, and_self, nI_clamp, fa_lit, pk_mul, nI_add, n10, n1z, n00, eq_self, not_true_eq_false, not_false_eq_true, hC.a, hQ.2.2.1, hQ.2.2.2.1, c2, nI_ltI, nI_leI, nI_eq, hk2, p_spotOf, s8, h1, e60, z, z2, sI_sh, sI_ne]
    · obtain ⟨N, eN, n1, n2, n3⟩ := ih (k + 1) m M (by omega) (by omega) hQ (by rw [fb_ct_succ, if_neg hp]; exact h1) (fun j hj hpj => h2 j (by
        by_cases e : j = k
        · subst e; exact absurd hpj hp
        · omega) hpj)
      refine ⟨N, ?_, n1, n2, n3⟩
      rw [← eN]
      have z : ¬ S (480 + 60 * l + k) = 0 := fun e => hp (by unfold stp; rw [decide_eq_true e]; rfl)
      have z2 : S (480 + 60 * l + k) < y := Nat.lt_of_not_le (fun e => hp (by unfold stp; rw [decide_eq_true e]; simp))
      simp (disch := omega) only [f_X1_load_14, reduceIte, ↓reduceIte, ↓ck_i, ↓nm_s, ↓bR_i, ↓bd_i, Option.isSome_some, Option.getD_some, gK, gR, gN, gIs, inb_nI, and_self, nI_clamp, fa_lit, pk_mul, nI_add, n10, n1z, n00, eq_self, not_true_eq_false, not_false_eq_true, hC.a, hQ.2.2.1, hQ.2.2.2.1, c2, nI_ltI, nI_leI, nI_eq, hk2, p_spotOf, s8, h1, e60, z, z2]
theorem p_load (hQ : CV B t M T S) (hT : t + 14 ≤ B + 44) (hB : t ≠ B) (hl : l < T 0) {y : Nat} (hy : y < 100) {v : Int32} : ∃ N, f_X1_load (B + 53) t (B + 15) (nI l) (nI y) v M = some ((), N) ∧ DR B N (stp S l y) (T (12 + 7 * l)) ∧ KD B M N ∧ N.1 (B + 53) 2 = v := by
  have w := (hQ.2.2.2.2.1.2.2 l hl).2.1
  have hC : CmD B M.2.2 := hQ.1
  have k1 : KD B M (sI (sI M (B + 53) 2 v) (B + 53) 1 (nI 0)) := ⟨rfl, fun a a1 a2 => by rw [sI_ne a1, sI_ne a1]⟩
  obtain ⟨N, eN, n1, n2, n3⟩ := p_load_lp (B := B) (t := t) (T := T) (S := S) hT hB hl hy (T (12 + 7 * l)) 0 FU (sI (sI M (B + 53) 2 v) (B + 53) 1 (nI 0)) (by omega) (by unfold FU; omega) (hQ.kp hT hB rfl (fun a ha => k1.2 a (by omega) (by omega))) sI_hit (fun j hj => absurd hj (by omega))
  refine ⟨N, ?_, n1, k1.tr n2, by rw [n3, sI_oth (by omega), sI_hit]⟩
  rw [show (0 : Nat) + 1 = 1 by omega] at eN
  have kk : gK M (B + 53) = 1 := by show M.2.2.2.1 _ = _; simp only [hC.a]
  have kk2 : gK (sI M (B + 53) 2 v) (B + 53) = 1 := kk
  rw [f_X1_load, ck_t kk, nm_s, ck_t kk2, nm_s, show (0 : Int32) = nI 0 from rfl, show (1 : Int32) = nI 1 from rfl]
  exact eN
end DRUM
