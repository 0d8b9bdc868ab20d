/-! needs: sums that are passed over draw the same numbers -/
def nP (T S : Nat → Nat) (l y m : Nat) : Bool := decide (vS T S l 0 0 m y = vD T S l 0 0 m y)
def nR (T S : Nat → Nat) (l y : Nat) : Nat → Nat → Int32
  | 0, _ => -nI 2
  | d + 1, m => if nP T S l y m = true then nI m else nR T S l y d (m + 1)
/-- by how much more some due changes, of the first k years -/
def uO (T S : Nat → Nat) (l m : Nat) : Nat → Nat
  | 0 => 99999
  | k + 1 => min (uO T S l m k) (csR T l (pA T S l 0 0 (S 1206 + 1 + k)) (S 1206 + 1 + k) - vF T S l 0 0 m (S 1206 + 1 + k + 1))
section NEEDS
variable {B t c l : Nat} {T S : Nat → Nat} {M N P : Mm} {x y : Int32}
theorem vS_dec {m : Nat} : ∀ (d i : Nat), vS T S l 0 0 m (S 1206 + 1 + (i + d)) ≤ vS T S l 0 0 m (S 1206 + 1 + i)
  | 0, i => Nat.le_refl _
  | d + 1, i => by
    have h := vS_dec (m := m) d i
    rw [show S 1206 + 1 + (i + (d + 1)) = S 1206 + 1 + (i + d) + 1 by omega, vS_next (by omega)]
    omega
/-- in a year to come behind which some stand, the fund that is left is below the cost -/
theorem nd_fu {m y : Nat} (hpl : T (12 + 7 * l + 4) = 1) (h1 : S 1206 < y) (hlt : y < T (12 + 7 * l + 3)) (hc : 1 ≤ csR T l (pA T S l 0 0 y) y) (hs : vS T S l 0 0 m (y + 1) ≠ 0) : vD T S l 0 0 m y = (vF T S l 0 0 m y + (T (12 + 7 * l + 5) - T (12 + 7 * l + 2) * vS T S l 0 0 m y)) / csR T l (pA T S l 0 0 y) y ∧ vF T S l 0 0 m (y + 1) = (vF T S l 0 0 m y + (T (12 + 7 * l + 5) - T (12 + 7 * l + 2) * vS T S l 0 0 m y)) % csR T l (pA T S l 0 0 y) y ∧ vD T S l 0 0 m y < vS T S l 0 0 m y := by
  rw [vS_next h1] at hs
  have hlt2 : vD T S l 0 0 m y < vS T S l 0 0 m y := by omega
  have hd : vD T S l 0 0 m y = min (vS T S l 0 0 m y) ((vF T S l 0 0 m y + (T (12 + 7 * l + 5) - T (12 + 7 * l + 2) * vS T S l 0 0 m y)) / csR T l (pA T S l 0 0 y) y) := by
    unfold vD duR
    rw [if_neg (by omega), if_neg (by omega), if_pos hpl]
  have hd2 : vD T S l 0 0 m y = (vF T S l 0 0 m y + (T (12 + 7 * l + 5) - T (12 + 7 * l + 2) * vS T S l 0 0 m y)) / csR T l (pA T S l 0 0 y) y := by omega
  refine ⟨hd2, ?_, hlt2⟩
  rw [vF_next h1]
  have e : fuR T l (pA T S l 0 0 y) y (vS T S l 0 0 m y) (vF T S l 0 0 m y) = vF T S l 0 0 m y + (T (12 + 7 * l + 5) - T (12 + 7 * l + 2) * vS T S l 0 0 m y) - vD T S l 0 0 m y * csR T l (pA T S l 0 0 y) y := by
    unfold fuR vD
    rw [if_neg (by omega), if_pos hpl]
  rw [e, hd2]
  have := Nat.div_add_mod' (vF T S l 0 0 m y + (T (12 + 7 * l + 5) - T (12 + 7 * l + 2) * vS T S l 0 0 m y)) (csR T l (pA T S l 0 0 y) y)
  omega
theorem nd_same {m e : Nat} (hpl : T (12 + 7 * l + 4) = 1) (hc : ∀ y, S 1206 < y → y ≤ T (12 + 7 * l + 3) → 1 ≤ csR T l (pA T S l 0 0 y) y) : ∀ k, S 1206 + 1 + k ≤ T (12 + 7 * l + 3) → vS T S l 0 0 m (S 1206 + 1 + k) ≠ 0 → e < uO T S l m k → vS T S l 0 0 (m + e) (S 1206 + 1 + k) = vS T S l 0 0 m (S 1206 + 1 + k) ∧ vF T S l 0 0 (m + e) (S 1206 + 1 + k) = vF T S l 0 0 m (S 1206 + 1 + k) + e
  | 0, _, _, _ => by
    rw [Nat.add_zero, vS_0, vS_0, vF_0, vF_0]
    exact ⟨rfl, by omega⟩
  | k + 1, h1, h2, h3 => by
    have h4 : e < uO T S l m k ∧ e < csR T l (pA T S l 0 0 (S 1206 + 1 + k)) (S 1206 + 1 + k) - vF T S l 0 0 m (S 1206 + 1 + k + 1) := by
      rw [uO] at h3; omega
    rw [show S 1206 + 1 + (k + 1) = S 1206 + 1 + k + 1 by omega] at h2 ⊢
    have h5 : vS T S l 0 0 m (S 1206 + 1 + k) ≠ 0 := by
      rw [vS_next (by omega)] at h2; omega
    obtain ⟨i1, i2⟩ := nd_same hpl hc k (by omega) h5 h4.1
    obtain ⟨d1, d2, d3⟩ := nd_fu (m := m) (y := S 1206 + 1 + k) hpl (by omega) (by omega) (hc _ (by omega) (by omega)) h2
    have hcc := hc (S 1206 + 1 + k) (by omega) (by omega)
    have hD : vD T S l 0 0 (m + e) (S 1206 + 1 + k) = vD T S l 0 0 m (S 1206 + 1 + k) := by
      rw [d1]
      have hd : vD T S l 0 0 (m + e) (S 1206 + 1 + k) = min (vS T S l 0 0 m (S 1206 + 1 + k)) ((vF T S l 0 0 m (S 1206 + 1 + k) + e + (T (12 + 7 * l + 5) - T (12 + 7 * l + 2) * vS T S l 0 0 m (S 1206 + 1 + k))) / csR T l (pA T S l 0 0 (S 1206 + 1 + k)) (S 1206 + 1 + k)) := by
        unfold vD duR
        rw [if_neg (by omega), if_neg (by omega), if_pos hpl, i1, i2]
      rw [hd]
      generalize hF : vF T S l 0 0 m (S 1206 + 1 + k) + (T (12 + 7 * l + 5) - T (12 + 7 * l + 2) * vS T S l 0 0 m (S 1206 + 1 + k)) = F at *
      rw [show vF T S l 0 0 m (S 1206 + 1 + k) + e + (T (12 + 7 * l + 5) - T (12 + 7 * l + 2) * vS T S l 0 0 m (S 1206 + 1 + k)) = F + e by omega]
      generalize csR T l (pA T S l 0 0 (S 1206 + 1 + k)) (S 1206 + 1 + k) = q at *
      have hq : (F + e) / q = F / q := by
        have dm := Nat.div_add_mod' F q
        have h6 : F + e = F / q * q + (F % q + e) := by omega
        rw [h6, Nat.add_comm, Nat.add_mul_div_right _ _ (by omega), Nat.div_eq_of_lt (by omega), Nat.zero_add]
      rw [hq, ← d1]
      omega
    refine ⟨?_, ?_⟩
    · rw [vS_next (by omega), vS_next (by omega), i1, hD]
    · rw [vF_next (by omega), d2]
      have ef : fuR T l (pA T S l 0 0 (S 1206 + 1 + k)) (S 1206 + 1 + k) (vS T S l 0 0 (m + e) (S 1206 + 1 + k)) (vF T S l 0 0 (m + e) (S 1206 + 1 + k)) = vF T S l 0 0 m (S 1206 + 1 + k) + e + (T (12 + 7 * l + 5) - T (12 + 7 * l + 2) * vS T S l 0 0 m (S 1206 + 1 + k)) - vD T S l 0 0 (m + e) (S 1206 + 1 + k) * csR T l (pA T S l 0 0 (S 1206 + 1 + k)) (S 1206 + 1 + k) := by
        unfold fuR vD
        rw [if_neg (by omega), if_pos hpl, i1, i2]
      rw [ef, hD, d1]
      have dm := Nat.div_add_mod' (vF T S l 0 0 m (S 1206 + 1 + k) + (T (12 + 7 * l + 5) - T (12 + 7 * l + 2) * vS T S l 0 0 m (S 1206 + 1 + k))) (csR T l (pA T S l 0 0 (S 1206 + 1 + k)) (S 1206 + 1 + k))
      omega
theorem uO_pos {m : Nat} (hpl : T (12 + 7 * l + 4) = 1) (hc : ∀ y, S 1206 < y → y ≤ T (12 + 7 * l + 3) → 1 ≤ csR T l (pA T S l 0 0 y) y) : ∀ k, S 1206 + 1 + k ≤ T (12 + 7 * l + 3) → vS T S l 0 0 m (S 1206 + 1 + k) ≠ 0 → 1 ≤ uO T S l m k ∧ uO T S l m k ≤ 99999
  | 0, _, _ => ⟨by show 1 ≤ 99999; omega, Nat.le_refl _⟩
  | k + 1, h1, h2 => by
    rw [show S 1206 + 1 + (k + 1) = S 1206 + 1 + k + 1 by omega] at h2
    have h5 : vS T S l 0 0 m (S 1206 + 1 + k) ≠ 0 := by
      rw [vS_next (by omega)] at h2; omega
    have ih := uO_pos hpl hc k (by omega) h5
    obtain ⟨d1, d2, d3⟩ := nd_fu (m := m) (y := S 1206 + 1 + k) hpl (by omega) (by omega) (hc _ (by omega) (by omega)) h2
    have hm := Nat.mod_lt (vF T S l 0 0 m (S 1206 + 1 + k) + (T (12 + 7 * l + 5) - T (12 + 7 * l + 2) * vS T S l 0 0 m (S 1206 + 1 + k))) (show 0 < csR T l (pA T S l 0 0 (S 1206 + 1 + k)) (S 1206 + 1 + k) by have := hc (S 1206 + 1 + k) (by omega) (by omega); omega)
    rw [uO]
    omega
theorem nR_skip {y : Nat} : ∀ (e d m : Nat), (∀ i, i < e → nP T S l y (m + i) = false) → nR T S l y (e + d) m = nR T S l y d (m + e)
  | 0, d, m, _ => by rw [Nat.zero_add]; rfl
  | e + 1, d, m, h => by
    have h0 := h 0 (by omega)
    rw [Nat.add_zero] at h0
    rw [show e + 1 + d = e + d + 1 by omega, nR, if_neg (by rw [h0]; decide), nR_skip e d (m + 1) (fun i hi => by rw [show m + 1 + i = m + (i + 1) by omega]; exact h (i + 1) (by omega)), show m + 1 + e = m + (e + 1) by omega]
theorem nR_none {y : Nat} (d m : Nat) (h : ∀ i, i < d → nP T S l y (m + i) = false) : nR T S l y d m = -nI 2 := by
  have := nR_skip d 0 m h
  rw [Nat.add_zero] at this
  rw [this]; rfl
theorem p_until_lp (hC : CmD B M.2.2) {m k : Nat} (hpl : T (12 + 7 * l + 4) = 1) (hk : S 1206 + 1 + k ≤ T (12 + 7 * l + 3)) (h20 : T (12 + 7 * l + 3) ≤ 20) (hc : ∀ y, S 1206 < y → y ≤ T (12 + 7 * l + 3) → 1 ≤ csR T l (pA T S l 0 0 y) y ∧ csR T l (pA T S l 0 0 y) y ≤ 999) (hA : RR B M T S l 0 0 m) (hs : vS T S l 0 0 m (S 1206 + 1 + k) ≠ 0) : ∀ (d i n : Nat), i + d = k → d < n → f_X4_untilOtherwise_8 n (B + 44) (nI (S 1206 + k)) (nI (uO T S l m i)) (nI (S 1206 + 1 + i)) M = some (nI (uO T S l m k), M) := by
  intro d
  induction d with
  | zero =>
    intro i n hi hn
    obtain ⟨n, rfl⟩ : ∃ q, n = q + 1 := ⟨n - 1, by omega⟩
    have hi : i = k := by omega
    subst hi
    have e : S 1206 + i < S 1206 + 1 + i := by omega
    simp (disch := omega) only [f_X4_untilOtherwise_8, reduceIte, ↓reduceIte, ↓ck_i, ↓nm_s, ↓bR_i, ↓bd_i, Option.isSome_some, Option.getD_some, gK, gR, gN, gIs, inb_nI, and_self, nI_clamp, fa_lit, pk_mul, nI_add, n10, n1z, n00, eq_self, not_true_eq_false, not_false_eq_true, nI_ltI, e]
  | succ d ih =>
    intro i n hi hn
    obtain ⟨n, rfl⟩ : ∃ q, n = q + 1 := ⟨n - 1, by omega⟩
    have ih := ih (i + 1) n (by omega) (by omega)
    have e : ¬ S 1206 + k < S 1206 + 1 + i := by omega
    have ra := hA (S 1206 + 1 + i) (by omega) (by omega)
    have a50 := ra.2.2.2.1
    have a52 := ra.2.2.2.2.2
    rw [← vF_next (by omega)] at a52
    clear ra
    have hs2 : vS T S l 0 0 m (S 1206 + 1 + i + 1) ≠ 0 := by
      have := vS_dec (T := T) (S := S) (l := l) (m := m) (k - (i + 1)) (i + 1)
      rw [show i + 1 + (k - (i + 1)) = k by omega, show S 1206 + 1 + (i + 1) = S 1206 + 1 + i + 1 by omega] at this
      omega
    have hcc := hc (S 1206 + 1 + i) (by omega) (by omega)
    obtain ⟨d1, d2, d3⟩ := nd_fu (m := m) (y := S 1206 + 1 + i) hpl (by omega) (by omega) hcc.1 hs2
    have hm := Nat.mod_lt (vF T S l 0 0 m (S 1206 + 1 + i) + (T (12 + 7 * l + 5) - T (12 + 7 * l + 2) * vS T S l 0 0 m (S 1206 + 1 + i))) (show 0 < csR T l (pA T S l 0 0 (S 1206 + 1 + i)) (S 1206 + 1 + i) by omega)
    rw [← d2] at hm
    have uu := uO_pos (m := m) hpl (fun y h1 h2 => (hc y h1 h2).1) i (by omega) (by
      have := vS_dec (T := T) (S := S) (l := l) (m := m) (k - i) i
      rw [show i + (k - i) = k by omega] at this
      omega)
    rw [uO] at ih
    rw [← ih]
    clear d1 d2 d3 ih
    simp (disch := omega) only [f_X4_untilOtherwise_8, reduceIte, ↓reduceIte, ↓ck_i, ↓nm_s, ↓bR_i, ↓bd_i, Option.isSome_some, Option.getD_some, gK, gR, gN, gIs, inb_nI, and_self, nI_clamp, fa_lit, pk_mul, nI_add, n10, n1z, n00, eq_self, not_true_eq_false, not_false_eq_true, hC.a, nI_ltI, e, a50, a52, pk_sub, j_min, ← Nat.add_assoc]
theorem p_needs_lp (hl : l < T 0) {k : Nat} (hpl : T (12 + 7 * l + 4) = 1) (hk : S 1206 + 1 + k ≤ T (12 + 7 * l + 3)) (ht : t + 14 ≤ B + 44) : ∀ (n m : Nat) (M : Mm), 1 ≤ n → 100001 ≤ n + m → CQ B t M T S c → RO B M T S l → m ≤ 200000 → ∃ N, f_X7_needs_42 n B (nI (S 1206 + 1 + k)) (nI m) M = some (nR T S l (S 1206 + 1 + k) (100000 - m) m, N) ∧ KO B M N := by
  intro n
  induction n with
  | zero => intro m M h1; exact absurd h1 (by omega)
  | succ n ih =>
    intro m M _ hn hQ hO hm
    have hW := hQ.2.2.2.2.1
    have hw := hQ.2.2.2.2.2.2.2.1
    have w := (hW.2.2 l hl).2.2.2.2.2.2.1
    have hcs : ∀ y, S 1206 < y → y ≤ T (12 + 7 * l + 3) → 1 ≤ csR T l (pA T S l 0 0 y) y ∧ csR T l (pA T S l 0 0 y) y ≤ 999 := fun y h1 h2 => by
      have pa := pA_rng (oy := 0) (op := 0) hW hw hl (Or.inl rfl) (y := y) (by omega) h2
      exact csR_rng hW hl pa.2.1 pa.2.2
    by_cases hbig : 99999 < m
    · refine ⟨M, ?_, ⟨rfl, fun _ _ => rfl⟩⟩
      rw [show 100000 - m = 0 by omega]
      simp (disch := omega) only [f_X7_needs_42, reduceIte, ↓reduceIte, ↓ck_i, ↓nm_s, ↓bR_i, ↓bd_i, Option.isSome_some, Option.getD_some, gK, gR, gN, gIs, inb_nI, and_self, nI_clamp, fa_lit, pk_mul, nI_add, n10, n1z, n00, eq_self, not_true_eq_false, not_false_eq_true, nI_ltI, hbig, nR]
    · obtain ⟨N, eN, n1, n2, n3⟩ := p_run hQ hl hO (oy := 0) (op := 0) (m := m) (by omega) (Or.inl rfl) (by omega)
      have hQN := n1.cq hQ ht
      have hv := vD_le (oy := 0) (op := 0) hW hw hQ.2.2.2.2.2.2.2.2 hl (m := m) (by omega) (y := S 1206 + 1 + k) (by omega) hk
      have lf := p_left hQN.1 n3 (y := S 1206 + 1 + k) (by omega) hk w hv.1
      have hd : 100000 - m = (99999 - m) + 1 := by omega
      by_cases hz : vS T S l 0 0 m (S 1206 + 1 + k) = vD T S l 0 0 m (S 1206 + 1 + k)
      · refine ⟨N, ?_, n1⟩
        rw [hd, nR, if_pos (by unfold nP; exact decide_eq_true hz)]
        have e0 : vS T S l 0 0 m (S 1206 + 1 + k) - vD T S l 0 0 m (S 1206 + 1 + k) = 0 := by omega
        rw [e0] at lf
        simp (disch := omega) only [f_X7_needs_42, reduceIte, ↓reduceIte, ↓ck_i, ↓nm_s, ↓bR_i, ↓bd_i, Option.isSome_some, Option.getD_some, gK, gR, gN, gIs, inb_nI, and_self, nI_clamp, fa_lit, pk_mul, nI_add, n10, n1z, n00, eq_self, not_true_eq_false, not_false_eq_true, nI_ltI, hbig, hQ.1, hQN.1, eN, lf]
      · have hlt : S 1206 + 1 + k < T (12 + 7 * l + 3) := by
          refine Nat.lt_of_le_of_ne hk (fun e => hz ?_)
          unfold vD duR
          rw [if_pos e]
        have hs : vS T S l 0 0 m (S 1206 + 1 + (k + 1)) ≠ 0 := by
          rw [show S 1206 + 1 + (k + 1) = S 1206 + 1 + k + 1 by omega, vS_next (by omega)]
          omega
        have uu := uO_pos (m := m) hpl (fun y h1 h2 => (hcs y h1 h2).1) (k + 1) (by omega) hs
        have un := p_until_lp hQN.1 (m := m) (k := k + 1) hpl (by omega) w hcs n3 hs (k + 1) 0 FU (by omega) (by unfold FU; omega)
        have un2 : f_X4_untilOtherwise (B + 44) (nI (S 1206 + 1 + k)) N = some (nI (uO T S l m (k + 1)), N) := by
          rw [show S 1206 + (k + 1) = S 1206 + 1 + k by omega, show uO T S l m 0 = 99999 from rfl, Nat.add_zero] at un
          rw [← un]
          simp (disch := omega) only [f_X4_untilOtherwise, reduceIte, ↓reduceIte, ↓ck_i, ↓nm_s, ↓bR_i, ↓bd_i, Option.isSome_some, Option.getD_some, gK, gR, gN, gIs, inb_nI, and_self, nI_clamp, fa_lit, pk_mul, nI_add, n10, n1z, n00, eq_self, not_true_eq_false, not_false_eq_true, hQN.1, n2.1]
        have mx : max 1 (uO T S l m (k + 1)) = uO T S l m (k + 1) := by omega
        obtain ⟨P, eP, p1⟩ := ih (m + uO T S l m (k + 1)) N (by omega) (by omega) hQN n2 (by omega)
        refine ⟨P, ?_, n1.tr p1⟩
        have no : ∀ i, i < uO T S l m (k + 1) → nP T S l (S 1206 + 1 + k) (m + i) = false := fun i hi => by
          have h6 := (nd_same (m := m) (e := i) hpl (fun y h1 h2 => (hcs y h1 h2).1) (k + 1) (by omega) hs hi).1
          unfold nP
          refine decide_eq_false (fun h7 => hs ?_)
          rw [← h6, show S 1206 + 1 + (k + 1) = S 1206 + 1 + k + 1 by omega, vS_next (by omega)]
          omega
        have eR : nR T S l (S 1206 + 1 + k) (100000 - m) m = nR T S l (S 1206 + 1 + k) (100000 - (m + uO T S l m (k + 1))) (m + uO T S l m (k + 1)) := by
          by_cases hu : uO T S l m (k + 1) ≤ 100000 - m
          · have := nR_skip (T := T) (S := S) (l := l) (y := S 1206 + 1 + k) (uO T S l m (k + 1)) (100000 - (m + uO T S l m (k + 1))) m no
            rw [show uO T S l m (k + 1) + (100000 - (m + uO T S l m (k + 1))) = 100000 - m by omega] at this
            exact this
          · rw [show 100000 - (m + uO T S l m (k + 1)) = 0 by omega, nR_none _ _ (fun i hi => no i (by omega))]
            rfl
        rw [eR, ← eP]
        have e0 : ¬ vS T S l 0 0 m (S 1206 + 1 + k) - vD T S l 0 0 m (S 1206 + 1 + k) = 0 := by omega
        simp (disch := omega) only [f_X7_needs_42, reduceIte, ↓reduceIte, ↓ck_i, ↓nm_s, ↓bR_i, ↓bd_i, Option.isSome_some, Option.getD_some, gK, gR, gN, gIs, inb_nI, and_self, nI_clamp, fa_lit, pk_mul, nI_add, n10, n1z, n00, eq_self, not_true_eq_false, not_false_eq_true, nI_ltI, hbig, hQ.1, hQN.1, eN, lf, nI_eq, e0, un2, j_max, mx]
theorem q_needs_lp (hl : l < T 0) {k : Nat} (hk : S 1206 + 1 + k ≤ T (12 + 7 * l + 3)) : ∀ (d m n : Nat) (M : Mm), m + d = 100000 → d < n → RQ B M T S c → ∃ N, f_X8_needs_28 n (B + 59) (nI l) (nI (S 1206 + 1 + k)) (nI m) M = some (nR T S l (S 1206 + 1 + k) d m, N) ∧ KT B M N := by
  intro d
  induction d with
  | zero =>
    intro m n M hm hn hR
    obtain ⟨n, rfl⟩ : ∃ q, n = q + 1 := ⟨n - 1, by omega⟩
    have hbig : 99999 < m := by omega
    refine ⟨M, ?_, ⟨rfl, fun _ _ _ => rfl, fun _ _ => rfl⟩⟩
    simp (disch := omega) only [f_X8_needs_28, reduceIte, ↓reduceIte, ↓ck_i, ↓nm_s, ↓bR_i, ↓bd_i, Option.isSome_some, Option.getD_some, gK, gR, gN, gIs, inb_nI, and_self, nI_clamp, fa_lit, pk_mul, nI_add, n10, n1z, n00, eq_self, not_true_eq_false, not_false_eq_true, nI_ltI, hbig, nR]
  | succ d ih =>
    intro m n M hm hn hR
    obtain ⟨n, rfl⟩ : ∃ q, n = q + 1 := ⟨n - 1, by omega⟩
    have hbig : ¬ 99999 < m := by omega
    have w := (hR.2.2.2.1.2.2 l hl).2.2.2.2.2.2.1
    obtain ⟨N, eN, n1, n2⟩ := q_tells hR hl (oy := 0) (op := 0) (m := m) (by omega) (Or.inl rfl) (by omega)
    have hRN := n1.rq hR
    have hv := vD_le (oy := 0) (op := 0) hR.2.2.2.1 hR.2.2.2.2.1 hR.2.2.2.2.2 hl (m := m) (by omega) (y := S 1206 + 1 + k) (by omega) hk
    obtain ⟨a0, -, a2, -, -⟩ := n2.yr (y := S 1206 + 1 + k) (by omega) hk
    by_cases hz : vS T S l 0 0 m (S 1206 + 1 + k) = vD T S l 0 0 m (S 1206 + 1 + k)
    · refine ⟨N, ?_, n1⟩
      rw [nR, if_pos (by unfold nP; exact decide_eq_true hz)]
      rw [hz] at a0
      simp (disch := omega) only [f_X8_needs_28, reduceIte, ↓reduceIte, ↓ck_i, ↓nm_s, ↓bR_i, ↓bd_i, Option.isSome_some, Option.getD_some, gK, gR, gN, gIs, inb_nI, and_self, nI_clamp, fa_lit, pk_mul, nI_add, n10, n1z, n00, eq_self, not_true_eq_false, not_false_eq_true, nI_ltI, hbig, hR.1, hRN.1, eN, Nat.add_zero, a0, a2]
    · obtain ⟨P, eP, p1⟩ := ih (m + 1) n N (by omega) (by omega) hRN
      refine ⟨P, ?_, n1.tr p1⟩
      rw [nR, if_neg (by unfold nP; rw [decide_eq_false hz]; decide), ← eP]
      simp (disch := omega) only [f_X8_needs_28, reduceIte, ↓reduceIte, ↓ck_i, ↓nm_s, ↓bR_i, ↓bd_i, Option.isSome_some, Option.getD_some, gK, gR, gN, gIs, inb_nI, and_self, nI_clamp, fa_lit, pk_mul, nI_add, n10, n1z, n00, eq_self, not_true_eq_false, not_false_eq_true, nI_ltI, hbig, hR.1, hRN.1, eN, Nat.add_zero, a0, a2, nI_eq, hz]
theorem pr_needs (hcc : c + 1 ≤ 600) : Pr B c (f_X7_needs B x y) (f_X8_needs (B + 59) x y) := by
  refine pr_q hcc (fun M t T S hQ hR ht => ?_)
  have w0 := hR.2.2.2.1.1
  have y60 := hR.2.2.2.2.1.1
  rcases ixL x (n := T 0) (by omega) with h | ⟨l, hl, rfl⟩
  · exact ⟨-nI 1, M, by simp (disch := omega) only [f_X7_needs, reduceIte, ↓reduceIte, ↓ck_i, ↓nm_s, ↓bR_i, ↓bd_i, Option.isSome_some, Option.getD_some, gK, gR, gN, gIs, inb_nI, and_self, nI_clamp, fa_lit, pk_mul, nI_add, n10, n1z, n00, eq_self, not_true_eq_false, not_false_eq_true, hQ.1, p_isToCome_0 hQ h], KC.rf, fun _ hR2 hb => ⟨sI M (B + 59) 0 (nI 0), by simp (disch := omega) only [f_X8_needs, reduceIte, ↓reduceIte, ↓ck_i, ↓nm_s, ↓bR_i, ↓bd_i, Option.isSome_some, Option.getD_some, gK, gR, gN, gIs, inb_nI, and_self, nI_clamp, fa_lit, pk_mul, nI_add, n10, n1z, n00, eq_self, not_true_eq_false, not_false_eq_true, hR.1, hR2.1, q_isToCome_0 hR2 h], KR.th (by omega) (by omega), hb⟩⟩
  have w := (hR.2.2.2.1.2.2 l hl).2.2.2.2.2.2.1
  have wp := (hR.2.2.2.1.2.2 l hl).2.2.2.2.2.2.2.1
  rcases ixN y (n := T (12 + 7 * l + 3)) (by omega) with h | ⟨k, hk, rfl⟩
  · exact ⟨-nI 1, M, by simp (disch := omega) only [f_X7_needs, reduceIte, ↓reduceIte, ↓ck_i, ↓nm_s, ↓bR_i, ↓bd_i, Option.isSome_some, Option.getD_some, gK, gR, gN, gIs, inb_nI, and_self, nI_clamp, fa_lit, pk_mul, nI_add, n10, n1z, n00, eq_self, not_true_eq_false, not_false_eq_true, hQ.1, p_isToCome_n hQ hl h], KC.rf, fun _ hR2 hb => ⟨sI M (B + 59) 0 (nI 0), by simp (disch := omega) only [f_X8_needs, reduceIte, ↓reduceIte, ↓ck_i, ↓nm_s, ↓bR_i, ↓bd_i, Option.isSome_some, Option.getD_some, gK, gR, gN, gIs, inb_nI, and_self, nI_clamp, fa_lit, pk_mul, nI_add, n10, n1z, n00, eq_self, not_true_eq_false, not_false_eq_true, hR.1, hR2.1, q_isToCome_n hR2 hl h], KR.th (by omega) (by omega), hb⟩⟩
  by_cases hy : k + 1 ≤ S 1206
  · exact ⟨-nI 1, M, by simp (disch := omega) only [f_X7_needs, reduceIte, ↓reduceIte, ↓ck_i, ↓nm_s, ↓bR_i, ↓bd_i, Option.isSome_some, Option.getD_some, gK, gR, gN, gIs, inb_nI, and_self, nI_clamp, fa_lit, pk_mul, nI_add, n10, n1z, n00, eq_self, not_true_eq_false, not_false_eq_true, hQ.1, p_isToCome_m hQ hl hk hy], KC.rf, fun _ hR2 hb => ⟨sI M (B + 59) 0 (nI 0), by simp (disch := omega) only [f_X8_needs, reduceIte, ↓reduceIte, ↓ck_i, ↓nm_s, ↓bR_i, ↓bd_i, Option.isSome_some, Option.getD_some, gK, gR, gN, gIs, inb_nI, and_self, nI_clamp, fa_lit, pk_mul, nI_add, n10, n1z, n00, eq_self, not_true_eq_false, not_false_eq_true, hR.1, hR2.1, q_isToCome_m hR2 hl hk hy], KR.th (by omega) (by omega), hb⟩⟩
  have hy : S 1206 < k + 1 := by omega
  have hi := p_isToCome_y hQ hl hk hy
  have c6 := (hQ.2.2.2.2.2.1.2.2.1 l hl).2.2.2.2.1
  by_cases hpl : T (12 + 7 * l + 4) = 1
  · obtain ⟨N, eN, n1, n2⟩ := p_open hQ ht hl
    have hQN := n1.cq hQ ht
    obtain ⟨N2, eN2, m1⟩ := p_needs_lp (B := B) (t := t) (c := c) (S := S) (k := k - S 1206) hl hpl (by omega) ht FU 0 N (by unfold FU; omega) (by unfold FU; omega) hQN n2 (by omega)
    rw [show S 1206 + 1 + (k - S 1206) = k + 1 by omega] at eN2
    have n11 : (nI 1 = nI 1) = True := by decide
    have e1 : f_X7_needs B (nI l) (nI (k + 1)) M = some (nR T S l (k + 1) (100000 - 0) 0, N2) := by
      rw [← eN2]
      simp (disch := omega) only [f_X7_needs, reduceIte, ↓reduceIte, ↓ck_i, ↓nm_s, ↓bR_i, ↓bd_i, Option.isSome_some, Option.getD_some, gK, gR, gN, gIs, inb_nI, and_self, nI_clamp, fa_lit, pk_mul, nI_add, n10, n1z, n00, eq_self, not_true_eq_false, not_false_eq_true, hQ.1, hQ.2.1, hQ.2.2.1, hi, c6, hpl, n11, eN]
    refine ⟨_, _, e1, (n1.tr m1).c, fun hRN hR2 hb => ?_⟩
    obtain ⟨P, eP, p1⟩ := q_needs_lp (B := B) (c := c) (S := S) (k := k - S 1206) hl (by omega) 100000 0 FU (sI N2 (B + 59) 0 (nI 0)) (by omega) (by unfold FU; omega) hR2
    rw [show S 1206 + 1 + (k - S 1206) = k + 1 by omega] at eP
    have l4 := q_loanOf hR2 hl (w := 4) (by omega)
    refine ⟨P, ?_, (KR.th (by omega) (by omega)).tr p1.r, by rw [p1.1, sI_r, (n1.tr m1).1]; exact hb⟩
    rw [show 100000 - 0 = 100000 by omega, ← eP]
    simp (disch := omega) only [f_X8_needs, reduceIte, ↓reduceIte, ↓ck_i, ↓nm_s, ↓bR_i, ↓bd_i, Option.isSome_some, Option.getD_some, gK, gR, gN, gIs, inb_nI, and_self, nI_clamp, fa_lit, pk_mul, nI_add, n10, n1z, n00, eq_self, not_true_eq_false, not_false_eq_true, hRN.1, hR2.1, q_isToCome_y hR2 hl hk hy, l4, hpl, n11]
  · have l4 := q_loanOf (hR.th (j := 0) (v := nI 0)) hl (w := 4) (by omega)
    exact ⟨-nI 1, M, by simp (disch := omega) only [f_X7_needs, reduceIte, ↓reduceIte, ↓ck_i, ↓nm_s, ↓bR_i, ↓bd_i, Option.isSome_some, Option.getD_some, gK, gR, gN, gIs, inb_nI, and_self, nI_clamp, fa_lit, pk_mul, nI_add, n10, n1z, n00, eq_self, not_true_eq_false, not_false_eq_true, hQ.1, hQ.2.1, hQ.2.2.1, hi, c6, nI_eq, hpl], KC.rf, fun _ hR2 hb => ⟨sI M (B + 59) 0 (nI 0), by simp (disch := omega) only [f_X8_needs, reduceIte, ↓reduceIte, ↓ck_i, ↓nm_s, ↓bR_i, ↓bd_i, Option.isSome_some, Option.getD_some, gK, gR, gN, gIs, inb_nI, and_self, nI_clamp, fa_lit, pk_mul, nI_add, n10, n1z, n00, eq_self, not_true_eq_false, not_false_eq_true, hR.1, hR2.1, q_isToCome_y hR2 hl hk hy, l4, nI_eq, hpl], KR.th (by omega) (by omega), hb⟩⟩
end NEEDS
