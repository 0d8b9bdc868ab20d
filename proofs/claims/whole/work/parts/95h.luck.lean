/-! mean, unlucky -/
section FILL
variable {a n : Nat} {v : Int32} {M : Mm}
theorem p_fill_lp (hn : n < 100000) : ∀ (d i m : Nat) (M : Mm), i + d = n → d < m → gK M a = 10 → gN M a = n → (∀ k, k < i → M.1 a k = v) → ∃ N, f_J7_fill_53178_5 m a v (nI i) (nI n) M = some ((), N) ∧ N.2 = M.2 ∧ (∀ b, b ≠ a → N.1 b = M.1 b) ∧ ∀ k, k < n → N.1 a k = v := by
  intro d
  induction d with
  | zero =>
    intro i m M hi hm hK hN h
    obtain ⟨m, rfl⟩ : ∃ q, m = q + 1 := ⟨m - 1, by omega⟩
    refine ⟨M, ?_, rfl, fun _ _ => rfl, fun k hk => h k (by omega)⟩
    rw [f_J7_fill_53178_5, if_pos (by rw [nI_leI (by omega) (by omega)]; omega)]
  | succ d ih =>
    intro i m M hi hm hK hN h
    obtain ⟨m, rfl⟩ : ∃ q, m = q + 1 := ⟨m - 1, by omega⟩
    obtain ⟨N, eN, n1, n2, n3⟩ := ih (i + 1) m (sI M a i v) (by omega) (by omega) hK hN (fun k hk => by
      by_cases e : k = i
      · subst e; exact sI_hit
      · rw [sI_oth e]; exact h k (by omega))
    refine ⟨N, ?_, n1, fun b hb => by rw [n2 b hb, sI_ne hb], n3⟩
    rw [f_J7_fill_53178_5, if_neg (by rw [nI_leI (by omega) (by omega)]; omega), ck_t (show gK M a = 10 ∧ inb (nI i) (gN M a) from ⟨hK, by rw [hN]; exact nI_in (by omega) (by omega)⟩), nm_s, nI_clamp (by omega), show nI i + 1 = nI (i + 1) from nI_1 i]
    exact eN
theorem p_fill (hn : n < 100000) (hK : gK M a = 10) (hN : gN M a = n) : ∃ N, f_J7_fill_53178 a v M = some ((), N) ∧ N.2 = M.2 ∧ (∀ b, b ≠ a → N.1 b = M.1 b) ∧ ∀ k, k < n → N.1 a k = v := by
  obtain ⟨N, eN, n1⟩ := p_fill_lp (a := a) (v := v) hn n 0 FU M (by omega) (by unfold FU; omega) hK hN (fun k hk => absurd hk (by omega))
  refine ⟨N, ?_, n1⟩
  rw [f_J7_fill_53178, ck_t hK, nm_s, hN]
  exact eN
end FILL
def yb (S : Nat → Nat) (l h k : Nat) : Nat := fb_sm (fun i => if S (240 + 60 * l + i) = h + 1 ∧ S (60 * l + i) ≠ 0 then S (480 + 60 * l + i) else 0) k
def rb (S : Nat → Nat) (l h k : Nat) : Nat := fb_sm (fun i => if S (240 + 60 * l + i) = h + 1 ∧ S (60 * l + i) ≠ 0 then 1 else 0) k
def uYl (T S : Nat → Nat) (h l k : Nat) : Nat := fb_sm (fun l' => yb S l' h (T (12 + 7 * l'))) l + yb S l h k
def uRl (T S : Nat → Nat) (h l k : Nat) : Nat := fb_sm (fun l' => rb S l' h (T (12 + 7 * l'))) l + rb S l h k
def LK (B : Nat) (M : Mm) (T S : Nat → Nat) (l k : Nat) : Prop := ∀ h, h < 6 → M.1 (B + 57) h = nI (uYl T S h l k) ∧ M.1 (B + 58) h = nI (uRl T S h l k)
def KL (B : Nat) (M N : Mm) : Prop := N.2 = M.2 ∧ ∀ a, a ≠ B + 57 → a ≠ B + 58 → N.1 a = M.1 a
def KA (B : Nat) (M N : Mm) : Prop := N.2 = M.2 ∧ (∀ a, a ≠ B + 59 → N.1 a = M.1 a) ∧ ∀ j, j ≠ 32 → j ≠ 33 → N.1 (B + 59) j = M.1 (B + 59) j
section LUCK
variable {B t c l : Nat} {T S : Nat → Nat} {M N P : Mm} {x y : Int32}
theorem KL.tr (h : KL B M N) (g : KL B N P) : KL B M P := ⟨g.1.trans h.1, fun a h1 h2 => (g.2 a h1 h2).trans (h.2 a h1 h2)⟩
theorem KA.tr (h : KA B M N) (g : KA B N P) : KA B M P := ⟨g.1.trans h.1, fun a h1 => (g.2.1 a h1).trans (h.2.1 a h1), fun j h1 h2 => (g.2.2 j h1 h2).trans (h.2.2 j h1 h2)⟩
theorem KA.s2 {u v : Int32} : KA B M (sI (sI M (B + 59) 32 u) (B + 59) 33 v) := ⟨rfl, fun a ha => by rw [sI_ne ha, sI_ne ha], fun j h1 h2 => by rw [sI_oth h2, sI_oth h1]⟩
theorem KL.cq (h : KL B M N) (hQ : CQ B t M T S c) (ht : t + 14 ≤ B + 44) : CQ B t N T S c := hQ.kp ht (by rw [h.1]) (fun a ha => h.2 a (by omega) (by omega))
theorem KL.kc (h : KL B M N) : KC B M N := ⟨by rw [h.1], fun a ha => h.2 a (by omega) (by omega), by rw [h.1]⟩
theorem KA.rq (h : KA B M N) (hR : RQ B M T S c) : RQ B N T S c := hR.keep (by rw [h.1]) (h.2.1 _ (by omega)) (h.2.1 _ (by omega))
theorem KA.kr (h : KA B M N) : KR B M N := ⟨by rw [h.1], fun a h1 _ _ => h.2.1 a h1, h.2.2 2 (by omega) (by omega), h.2.2 23 (by omega) (by omega), by rw [h.1]⟩
theorem uYl_s {h k : Nat} : uYl T S h l (k + 1) = uYl T S h l k + (if S (240 + 60 * l + k) = h + 1 ∧ S (60 * l + k) ≠ 0 then S (480 + 60 * l + k) else 0) := by
  unfold uYl yb
  rw [fb_sm_succ]
  exact (Nat.add_assoc _ _ _).symm
theorem uRl_s {h k : Nat} : uRl T S h l (k + 1) = uRl T S h l k + (if S (240 + 60 * l + k) = h + 1 ∧ S (60 * l + k) ≠ 0 then 1 else 0) := by
  unfold uRl rb
  rw [fb_sm_succ]
  exact (Nat.add_assoc _ _ _).symm
theorem uYl_n {h : Nat} : uYl T S h (l + 1) 0 = uYl T S h l (T (12 + 7 * l)) := by
  unfold uYl
  rw [fb_sm_succ]
  rfl
theorem uRl_n {h : Nat} : uRl T S h (l + 1) 0 = uRl T S h l (T (12 + 7 * l)) := by
  unfold uRl
  rw [fb_sm_succ]
  rfl
theorem p_reck29 (ht : t + 14 ≤ B + 44) (hl : l < T 0) {r18 : Nat → Nat → Nat → Int32 → Mm → Option (Unit × Mm)} {Q : Mm → Prop} (hr : ∀ N, LK B N T S (l + 1) 0 → CQ B t N T S c → ∃ P, r18 (B + 56) t (B + 15) (nI (l + 1)) N = some ((), P) ∧ Q P ∧ KL B N P) : ∀ (d k n : Nat) (M : Mm), k + d = T (12 + 7 * l) → d < n → LK B M T S l k → CQ B t M T S c → ∃ P, f_X2_reckon_29 r18 n (B + 56) t (B + 15) (nI l) (nI (k + 1)) M = some ((), P) ∧ Q P ∧ KL B M P := by
  intro d
  induction d with
  | zero =>
    intro k n M hk hn hL hQ
    obtain ⟨n, rfl⟩ : ∃ q, n = q + 1 := ⟨n - 1, by omega⟩
    have w := (hQ.2.2.2.2.1.2.2 l hl).2.1
    have w0 := hQ.2.2.2.2.1.1
    have hk : k = T (12 + 7 * l) := by omega
    subst hk
    obtain ⟨P, e, q1, q2⟩ := hr M (fun h hh => by rw [uYl_n, uRl_n]; exact hL h hh) hQ
    have c2 := (hQ.2.2.2.2.2.1.2.2.1 l hl).1
    refine ⟨P, ?_, q1, q2⟩
    rw [← e]
    simp (disch := omega) only [f_X2_reckon_29, reduceIte, ↓reduceIte, ↓ck_i, ↓nm_s, ↓bR_i, ↓bd_i, Option.isSome_some, Option.getD_some, gK, gR, gN, gIs, inb_nI, and_self, nI_clamp, fa_lit, pk_mul, nI_add, n10, n1z, n00, eq_self, not_true_eq_false, not_false_eq_true, hQ.2.2.1, c2, nI_ltI, Nat.lt_succ_self]
  | succ d ih =>
    intro k n M hk hn hL hQ
    obtain ⟨n, rfl⟩ : ∃ q, n = q + 1 := ⟨n - 1, by omega⟩
    have w := (hQ.2.2.2.2.1.2.2 l hl).2.1
    have w0 := hQ.2.2.2.2.1.1
    have w1 := hQ.2.2.2.2.1.2.1
    have hk2 : ¬ T (12 + 7 * l) < k + 1 := by omega
    have c2 := (hQ.2.2.2.2.2.1.2.2.1 l hl).1
    have s3 := hQ.2.2.2.2.2.2.1.2.2.2.2 l hl k (by omega)
    have s6 := s3.1
    have s7 := s3.2.1
    have s8 := s3.2.2.1
    clear s3
    have v3 := hQ.2.2.2.2.2.2.2.1.2.2.2.2.1 l hl k (by omega)
    have v4 := v3.1
    have v5 := v3.2.1
    clear v3
    have skip : (∀ h, ¬ (S (240 + 60 * l + k) = h + 1 ∧ S (60 * l + k) ≠ 0)) → f_X2_reckon_29 r18 (n + 1) (B + 56) t (B + 15) (nI l) (nI (k + 1)) M = f_X2_reckon_29 r18 n (B + 56) t (B + 15) (nI l) (nI (k + 1 + 1)) M → ∃ P, f_X2_reckon_29 r18 (n + 1) (B + 56) t (B + 15) (nI l) (nI (k + 1)) M = some ((), P) ∧ Q P ∧ KL B M P := fun hno e => by
      obtain ⟨P, eP, q⟩ := ih (k + 1) n M (by omega) (by omega) (fun h hh => by rw [uYl_s, uRl_s, if_neg (hno h), if_neg (hno h)]; exact hL h hh) hQ
      exact ⟨P, by rw [e]; exact eP, q⟩
    by_cases hg : S (240 + 60 * l + k) = 0
    · rw [hg] at s7
      refine skip (fun h q => by omega) ?_
      simp (disch := omega) only [f_X2_reckon_29, reduceIte, ↓reduceIte, ↓ck_i, ↓nm_s, ↓bR_i, ↓bd_i, Option.isSome_some, Option.getD_some, gK, gR, gN, gIs, inb_nI, and_self, nI_clamp, fa_lit, pk_mul, nI_add, n10, n1z, n00, eq_self, not_true_eq_false, not_false_eq_true, hQ.2.2.1, hQ.2.2.2.1, c2, nI_ltI, hk2, p_spotOf, s7, neg1_lt]
    · obtain ⟨j, hj⟩ : ∃ j, S (240 + 60 * l + k) = j + 1 := ⟨S (240 + 60 * l + k) - 1, by omega⟩
      rw [hj] at s7 v5
      have e1 : ¬ j < 0 := by omega
      have e2 : ¬ 6 ≤ j := by omega
      by_cases hs : S (60 * l + k) = 0
      · refine skip (fun h q => q.2 hs) ?_
        simp (disch := omega) only [f_X2_reckon_29, reduceIte, ↓reduceIte, ↓ck_i, ↓nm_s, ↓bR_i, ↓bd_i, Option.isSome_some, Option.getD_some, gK, gR, gN, gIs, inb_nI, and_self, nI_clamp, fa_lit, pk_mul, nI_add, n10, n1z, n00, eq_self, not_true_eq_false, not_false_eq_true, hQ.2.2.1, hQ.2.2.2.1, c2, nI_ltI, nI_leI, hk2, p_spotOf, s7, pk_sub, Nat.add_sub_cancel, e1, e2, s6, hs]
      · obtain ⟨l1, l2⟩ := hL j (by omega)
        have hL2 : LK B (sI (sI M (B + 57) j (nI (uYl T S j l k + S (480 + 60 * l + k)))) (B + 58) j (nI (uRl T S j l k + 1))) T S l (k + 1) := fun h hh => by
          rw [uYl_s, uRl_s]
          by_cases e : h = j
          · subst e
            rw [if_pos ⟨hj, hs⟩, if_pos ⟨hj, hs⟩, sI_hit, sI_ne (by omega), sI_hit]
            exact ⟨rfl, rfl⟩
          · rw [if_neg (fun q => e (by omega)), if_neg (fun q => e (by omega)), sI_oth e, sI_oth e, sI_oth e, sI_oth e]
            exact hL h hh
        have kl : KL B M (sI (sI M (B + 57) j (nI (uYl T S j l k + S (480 + 60 * l + k)))) (B + 58) j (nI (uRl T S j l k + 1))) := ⟨rfl, fun a h1 h2 => by rw [sI_ne h2, sI_ne h1]⟩
        obtain ⟨P, eP, q1, q2⟩ := ih (k + 1) n _ (by omega) (by omega) hL2 (kl.cq hQ ht)
        refine ⟨P, ?_, q1, kl.tr q2⟩
        rw [← eP]
        have hC : CmD B M.2.2 := hQ.1
        simp (disch := omega) only [f_X2_reckon_29, reduceIte, ↓reduceIte, ↓ck_i, ↓nm_s, ↓bR_i, ↓bd_i, Option.isSome_some, Option.getD_some, gK, gR, gN, gIs, inb_nI, and_self, nI_clamp, fa_lit, pk_mul, nI_add, n10, n1z, n00, eq_self, not_true_eq_false, not_false_eq_true, hC.a, hQ.2.2.1, hQ.2.2.2.1, c2, nI_ltI, nI_leI, hk2, p_spotOf, s7, pk_sub, Nat.add_sub_cancel, e1, e2, s6, nI_eq, hs, l1, s8, sI_sh, sI_ne, l2]
theorem p_reck18 (ht : t + 14 ≤ B + 44) : ∀ (d l n : Nat) (M : Mm), l + d = T 0 → d < n → LK B M T S l 0 → CQ B t M T S c → ∃ P, f_X2_reckon_18 n (B + 56) t (B + 15) (nI l) M = some ((), P) ∧ LK B P T S (T 0) 0 ∧ KL B M P := by
  intro d
  induction d with
  | zero =>
    intro l n M hl hn hL hQ
    obtain ⟨n, rfl⟩ : ∃ q, n = q + 1 := ⟨n - 1, by omega⟩
    have w0 := hQ.2.2.2.2.1.1
    have hl : l = T 0 := by omega
    subst hl
    have c1 := hQ.2.2.2.2.2.1.1
    refine ⟨M, ?_, hL, ⟨rfl, fun _ _ _ => rfl⟩⟩
    simp (disch := omega) only [f_X2_reckon_18, reduceIte, ↓reduceIte, ↓ck_i, ↓nm_s, ↓bR_i, ↓bd_i, Option.isSome_some, Option.getD_some, gK, gR, gN, gIs, inb_nI, and_self, nI_clamp, fa_lit, pk_mul, nI_add, n10, n1z, n00, eq_self, not_true_eq_false, not_false_eq_true, hQ.2.2.1, c1, nI_leI, Nat.le_refl]
  | succ d ih =>
    intro l n M hl hn hL hQ
    obtain ⟨n, rfl⟩ : ∃ q, n = q + 1 := ⟨n - 1, by omega⟩
    have w0 := hQ.2.2.2.2.1.1
    have w := (hQ.2.2.2.2.1.2.2 l (by omega)).2.1
    have c1 := hQ.2.2.2.2.2.1.1
    have e : ¬ T 0 ≤ l := by omega
    obtain ⟨P, eP, q1, q2⟩ := p_reck29 (r18 := f_X2_reckon_18 n) (Q := fun P => LK B P T S (T 0) 0) ht (l := l) (by omega) (fun N h1 h2 => ih (l + 1) n N (by omega) (by omega) h1 h2) (T (12 + 7 * l)) 0 FU M (by omega) (by unfold FU; omega) hL hQ
    refine ⟨P, ?_, q1, q2⟩
    rw [← eP]
    simp (disch := omega) only [f_X2_reckon_18, reduceIte, ↓reduceIte, ↓ck_i, ↓nm_s, ↓bR_i, ↓bd_i, Option.isSome_some, Option.getD_some, gK, gR, gN, gIs, inb_nI, and_self, nI_clamp, fa_lit, pk_mul, nI_add, n10, n1z, n00, eq_self, not_true_eq_false, not_false_eq_true, hQ.2.2.1, c1, nI_leI, e]
theorem p_reckon (hQ : CQ B t M T S c) (ht : t + 14 ≤ B + 44) : ∃ P, f_X2_reckon (B + 56) t (B + 15) M = some ((), P) ∧ LK B P T S (T 0) 0 ∧ KL B M P := by
  have hC : CmD B M.2.2 := hQ.1
  have w0 := hQ.2.2.2.2.1.1
  obtain ⟨N1, e1, a1, a2, a3⟩ := p_fill (a := B + 57) (n := 6) (v := nI 0) (M := M) (by omega) (by show M.2.2.2.1 _ = _; simp only [hC.a]) (by show M.2.2.2.2.1 _ = _; simp only [hC.a])
  have s1 : N1.2.2 = M.2.2 := by rw [a1]
  obtain ⟨N2, e2, b1, b2, b3⟩ := p_fill (a := B + 58) (n := 6) (v := nI 0) (M := N1) (by omega) (by show N1.2.2.2.1 _ = _; rw [s1]; simp only [hC.a]) (by show N1.2.2.2.2.1 _ = _; rw [s1]; simp only [hC.a])
  have s2 : N2.2.2 = M.2.2 := by rw [b1, a1]
  have kl : KL B M N2 := ⟨b1.trans a1, fun a h1 h2 => (b2 a h2).trans (a2 a h1)⟩
  have hQ2 := kl.cq hQ ht
  obtain ⟨P, eP, q1, q2⟩ := p_reck18 (B := B) (t := t) (c := c) (T := T) (S := S) ht (T 0) 0 FU N2 (by omega) (by unfold FU; omega) (fun h hh => ⟨by rw [b2 _ (by omega)]; exact a3 h hh, b3 h hh⟩) hQ2
  refine ⟨P, ?_, q1, kl.tr q2⟩
  rw [← eP]
  simp (disch := omega) only [f_X2_reckon, reduceIte, ↓reduceIte, ↓ck_i, ↓nm_s, ↓bR_i, ↓bd_i, Option.isSome_some, Option.getD_some, gK, gR, gN, gIs, inb_nI, and_self, nI_clamp, fa_lit, pk_mul, nI_add, n10, n1z, n00, eq_self, not_true_eq_false, not_false_eq_true, hC.a, s1, s2, e1, e2]
theorem q_adds24 (hl : l < T 0) {h : Nat} (hh : h < T 1) {r12 : Nat → Int32 → Int32 → Mm → Option (Unit × Mm)} {Q : Mm → Prop} (hr : ∀ N, N.1 (B + 59) 32 = nI (uYl T S h (l + 1) 0) → N.1 (B + 59) 33 = nI (uRl T S h (l + 1) 0) → RQ B N T S c → ∃ P, r12 (B + 59) (nI h) (nI (l + 1)) N = some ((), P) ∧ Q P ∧ KA B N P) : ∀ (d k n : Nat) (M : Mm), k + d = T (12 + 7 * l) → d < n → M.1 (B + 59) 32 = nI (uYl T S h l k) → M.1 (B + 59) 33 = nI (uRl T S h l k) → RQ B M T S c → ∃ P, f_X8_adds_24 r12 n (B + 59) (nI h) (nI l) (nI (k + 1)) M = some ((), P) ∧ Q P ∧ KA B M P := by
  intro d
  induction d with
  | zero =>
    intro k n M hk hn h32 h33 hR
    obtain ⟨n, rfl⟩ : ∃ q, n = q + 1 := ⟨n - 1, by omega⟩
    have w := (hR.2.2.2.1.2.2 l hl).2.1
    have w0 := hR.2.2.2.1.1
    have hk : k = T (12 + 7 * l) := by omega
    subst hk
    obtain ⟨P, e, q1, q2⟩ := hr M (by rw [uYl_n]; exact h32) (by rw [uRl_n]; exact h33) hR
    have lo := q_loanOf hR hl (w := 0) (by omega)
    refine ⟨P, ?_, q1, q2⟩
    rw [← e]
    simp (disch := omega) only [f_X8_adds_24, reduceIte, ↓reduceIte, ↓ck_i, ↓nm_s, ↓bR_i, ↓bd_i, Option.isSome_some, Option.getD_some, gK, gR, gN, gIs, inb_nI, and_self, nI_clamp, fa_lit, pk_mul, nI_add, n10, n1z, n00, eq_self, not_true_eq_false, not_false_eq_true, hR.1, lo, Nat.add_zero, nI_ltI, Nat.lt_succ_self]
  | succ d ih =>
    intro k n M hk hn h32 h33 hR
    obtain ⟨n, rfl⟩ : ∃ q, n = q + 1 := ⟨n - 1, by omega⟩
    have w := (hR.2.2.2.1.2.2 l hl).2.1
    have w0 := hR.2.2.2.1.1
    have w1 := hR.2.2.2.1.2.1
    have hk2 : ¬ T (12 + 7 * l) < k + 1 := by omega
    have lo := q_loanOf hR hl (w := 0) (by omega)
    have s6 := hR.2.2.1 (60 * l + k) (by omega)
    have s7 := hR.2.2.1 (240 + 60 * l + k) (by omega)
    have s8 := hR.2.2.1 (480 + 60 * l + k) (by omega)
    have v3 := hR.2.2.2.2.1.2.2.2.2.1 l hl k (by omega)
    have v4 := v3.1
    have v5 := v3.2.1
    clear v3
    have a2 : 240 + (60 * l + k) = 240 + 60 * l + k := by omega
    have a4 : 480 + (60 * l + k) = 480 + 60 * l + k := by omega
    have skip : ¬ (S (240 + 60 * l + k) = h + 1 ∧ S (60 * l + k) ≠ 0) → f_X8_adds_24 r12 (n + 1) (B + 59) (nI h) (nI l) (nI (k + 1)) M = f_X8_adds_24 r12 n (B + 59) (nI h) (nI l) (nI (k + 1 + 1)) M → ∃ P, f_X8_adds_24 r12 (n + 1) (B + 59) (nI h) (nI l) (nI (k + 1)) M = some ((), P) ∧ Q P ∧ KA B M P := fun hno e => by
      obtain ⟨P, eP, q⟩ := ih (k + 1) n M (by omega) (by omega) (by rw [uYl_s, if_neg hno]; exact h32) (by rw [uRl_s, if_neg hno]; exact h33) hR
      exact ⟨P, by rw [e]; exact eP, q⟩
    by_cases hg : S (240 + 60 * l + k) = h + 1
    · by_cases hs : S (60 * l + k) = 0
      · refine skip (fun q => q.2 hs) ?_
        simp (disch := omega) only [f_X8_adds_24, reduceIte, ↓reduceIte, ↓ck_i, ↓nm_s, ↓bR_i, ↓bd_i, Option.isSome_some, Option.getD_some, gK, gR, gN, gIs, inb_nI, and_self, nI_clamp, fa_lit, pk_mul, nI_add, n10, n1z, n00, eq_self, not_true_eq_false, not_false_eq_true, hR.1, lo, Nat.add_zero, nI_ltI, hk2, p_bondAt, a2, s7, hg, Nat.zero_add, s6, hs]
      · obtain ⟨P, eP, q1, q2⟩ := ih (k + 1) n (sI (sI M (B + 59) 32 (nI (uYl T S h l k + S (480 + 60 * l + k)))) (B + 59) 33 (nI (uRl T S h l k + 1))) (by omega) (by omega) (by rw [uYl_s, if_pos ⟨hg, hs⟩, sI_oth (by omega), sI_hit]) (by rw [uRl_s, if_pos ⟨hg, hs⟩, sI_hit]) (hR.th.th)
        refine ⟨P, ?_, q1, KA.s2.tr q2⟩
        rw [← eP]
        have hD : RfD B M.2.2 := hR.1
        simp (disch := omega) only [f_X8_adds_24, reduceIte, ↓reduceIte, ↓ck_i, ↓nm_s, ↓bR_i, ↓bd_i, Option.isSome_some, Option.getD_some, gK, gR, gN, gIs, inb_nI, and_self, nI_clamp, fa_lit, pk_mul, nI_add, n10, n1z, n00, eq_self, not_true_eq_false, not_false_eq_true, hD.a, lo, Nat.add_zero, nI_ltI, hk2, p_bondAt, a2, a4, s7, hg, Nat.zero_add, s6, nI_eq, hs, s8, h32, h33, sI_sh, sI_oth]
    · refine skip (fun q => hg q.1) ?_
      simp (disch := omega) only [f_X8_adds_24, reduceIte, ↓reduceIte, ↓ck_i, ↓nm_s, ↓bR_i, ↓bd_i, Option.isSome_some, Option.getD_some, gK, gR, gN, gIs, inb_nI, and_self, nI_clamp, fa_lit, pk_mul, nI_add, n10, n1z, n00, eq_self, not_true_eq_false, not_false_eq_true, hR.1, lo, Nat.add_zero, nI_ltI, hk2, p_bondAt, a2, s7, nI_eq, hg]
theorem q_adds12 {h : Nat} (hh : h < T 1) : ∀ (d l n : Nat) (M : Mm), l + d = T 0 → d < n → M.1 (B + 59) 32 = nI (uYl T S h l 0) → M.1 (B + 59) 33 = nI (uRl T S h l 0) → RQ B M T S c → ∃ P, f_X8_adds_12 n (B + 59) (nI h) (nI l) M = some ((), P) ∧ (P.1 (B + 59) 32 = nI (uYl T S h (T 0) 0) ∧ P.1 (B + 59) 33 = nI (uRl T S h (T 0) 0)) ∧ KA B M P := by
  intro d
  induction d with
  | zero =>
    intro l n M hl hn h32 h33 hR
    obtain ⟨n, rfl⟩ : ∃ q, n = q + 1 := ⟨n - 1, by omega⟩
    have w0 := hR.2.2.2.1.1
    have hl : l = T 0 := by omega
    subst hl
    have t0 := hR.2.1 0 (by omega)
    refine ⟨M, ?_, ⟨h32, h33⟩, ⟨rfl, fun _ _ => rfl, fun _ _ _ => rfl⟩⟩
    simp (disch := omega) only [f_X8_adds_12, reduceIte, ↓reduceIte, ↓ck_i, ↓nm_s, ↓bR_i, ↓bd_i, Option.isSome_some, Option.getD_some, gK, gR, gN, gIs, inb_nI, and_self, nI_clamp, fa_lit, pk_mul, nI_add, n10, n1z, n00, eq_self, not_true_eq_false, not_false_eq_true, hR.1, t0, nI_leI, Nat.le_refl]
  | succ d ih =>
    intro l n M hl hn h32 h33 hR
    obtain ⟨n, rfl⟩ : ∃ q, n = q + 1 := ⟨n - 1, by omega⟩
    have w0 := hR.2.2.2.1.1
    have w := (hR.2.2.2.1.2.2 l (by omega)).2.1
    have t0 := hR.2.1 0 (by omega)
    have e : ¬ T 0 ≤ l := by omega
    obtain ⟨P, eP, q1, q2⟩ := q_adds24 (r12 := f_X8_adds_12 n) (Q := fun P => P.1 (B + 59) 32 = nI (uYl T S h (T 0) 0) ∧ P.1 (B + 59) 33 = nI (uRl T S h (T 0) 0)) (l := l) (by omega) hh (fun N h1 h2 h3 => ih (l + 1) n N (by omega) (by omega) h1 h2 h3) (T (12 + 7 * l)) 0 FU M (by omega) (by unfold FU; omega) h32 h33 hR
    refine ⟨P, ?_, q1, q2⟩
    rw [← eP]
    simp (disch := omega) only [f_X8_adds_12, reduceIte, ↓reduceIte, ↓ck_i, ↓nm_s, ↓bR_i, ↓bd_i, Option.isSome_some, Option.getD_some, gK, gR, gN, gIs, inb_nI, and_self, nI_clamp, fa_lit, pk_mul, nI_add, n10, n1z, n00, eq_self, not_true_eq_false, not_false_eq_true, hR.1, t0, nI_leI, e]
def uY (T S : Nat → Nat) (h : Nat) : Nat := uYl T S h (T 0) 0
def uR (T S : Nat → Nat) (h : Nat) : Nat := uRl T S h (T 0) 0
theorem q_adds (hR : RQ B M T S c) {h : Nat} (hh : h < T 1) : ∃ P, f_X8_adds (B + 59) (nI h) M = some ((), P) ∧ (P.1 (B + 59) 32 = nI (uY T S h) ∧ P.1 (B + 59) 33 = nI (uR T S h)) ∧ KA B M P := by
  have w0 := hR.2.2.2.1.1
  obtain ⟨P, eP, q1, q2⟩ := q_adds12 (B := B) (c := c) (T := T) (S := S) hh (T 0) 0 FU (sI (sI M (B + 59) 32 (nI 0)) (B + 59) 33 (nI 0)) (by omega) (by unfold FU; omega) (by rw [sI_oth (by omega), sI_hit]; rfl) (by rw [sI_hit]; rfl) hR.th.th
  refine ⟨P, ?_, q1, KA.s2.tr q2⟩
  rw [← eP]
  simp (disch := omega) only [f_X8_adds, reduceIte, ↓reduceIte, ↓ck_i, ↓nm_s, ↓bR_i, ↓bd_i, Option.isSome_some, Option.getD_some, gK, gR, gN, gIs, inb_nI, and_self, nI_clamp, fa_lit, pk_mul, nI_add, n10, n1z, n00, eq_self, not_true_eq_false, not_false_eq_true, hR.1, sI_sh]
theorem u_le (hW : TW T) (hw : SW T S c) {h : Nat} : uY T S h ≤ 14400 ∧ uR T S h ≤ 240 := by
  have w0 := hW.1
  have y60 := hw.1
  have e1 : uY T S h = fb_sm (fun l' => yb S l' h (T (12 + 7 * l'))) (T 0) := rfl
  have e2 : uR T S h = fb_sm (fun l' => rb S l' h (T (12 + 7 * l'))) (T 0) := rfl
  rw [e1, e2]
  refine ⟨Nat.le_trans (fb_sm_bound (c := 3600) (fun l hl => ?_)) (Nat.le_trans (Nat.mul_le_mul_right _ w0) (by omega)), Nat.le_trans (fb_sm_bound (c := 60) (fun l hl => ?_)) (Nat.le_trans (Nat.mul_le_mul_right _ w0) (by omega))⟩
  · have w := (hW.2.2 l hl).2.1
    refine Nat.le_trans (fb_sm_bound (c := 60) (fun k hk => ?_)) (Nat.le_trans (Nat.mul_le_mul_right _ w) (by omega))
    have := (hw.2.2.2.2.1 l hl k hk).2.2.2.1
    split <;> omega
  · have w := (hW.2.2 l hl).2.1
    refine Nat.le_trans (fb_sm_bound (c := 1) (fun k hk => ?_)) (by omega)
    split <;> omega
theorem pr_mean (hcc : c + 1 ≤ 600) : Pr B c (f_X7_mean B x) (f_X8_mean (B + 59) x) := by
  refine pr_q hcc (fun M t T S hQ hR ht => ?_)
  have w1 := hR.2.2.2.1.2.1
  rcases ixL x (n := T 1) (by omega) with h | ⟨h, hh, rfl⟩
  · exact ⟨-1, M, by simp (disch := omega) only [f_X7_mean, reduceIte, ↓reduceIte, ↓ck_i, ↓nm_s, ↓bR_i, ↓bd_i, Option.isSome_some, Option.getD_some, gK, gR, gN, gIs, inb_nI, and_self, nI_clamp, fa_lit, pk_mul, nI_add, n10, n1z, n00, eq_self, not_true_eq_false, not_false_eq_true, hQ.1, p_isHolder_n hQ h], KC.rf, fun _ hR2 hb => ⟨sI M (B + 59) 0 (nI 0), by simp (disch := omega) only [f_X8_mean, reduceIte, ↓reduceIte, ↓ck_i, ↓nm_s, ↓bR_i, ↓bd_i, Option.isSome_some, Option.getD_some, gK, gR, gN, gIs, inb_nI, and_self, nI_clamp, fa_lit, pk_mul, nI_add, n10, n1z, n00, eq_self, not_true_eq_false, not_false_eq_true, hR.1, hR2.1, q_isHolder_n hR2 h], KR.th (by omega) (by omega), hb⟩⟩
  obtain ⟨N, eN, n1, n2⟩ := p_reckon hQ ht
  have hQN := n2.cq hQ ht
  obtain ⟨l1, l2⟩ := n1 h (by omega)
  have l1' : N.1 (B + 57) h = nI (uY T S h) := l1
  have l2' : N.1 (B + 58) h = nI (uR T S h) := l2
  have ul := u_le (h := h) hR.2.2.2.1 hR.2.2.2.2.1
  have hC : CmD B M.2.2 := hQ.1
  have hCN : CmD B N.2.2 := hQN.1
  have ph := p_isHolder_y hQ hh
  clear l1 l2
  by_cases h0 : uR T S h = 0
  · rw [h0] at l2'
    refine ⟨-2, N, by simp (disch := omega) only [f_X7_mean, reduceIte, ↓reduceIte, ↓ck_i, ↓nm_s, ↓bR_i, ↓bd_i, Option.isSome_some, Option.getD_some, gK, gR, gN, gIs, inb_nI, and_self, nI_clamp, fa_lit, pk_mul, nI_add, n10, n1z, n00, eq_self, not_true_eq_false, not_false_eq_true, hC.a, hCN.a, hQ.2.1, ph, eN, l2'], n2.kc, fun hRN hR2 hb => ?_⟩
    obtain ⟨P, eP, ⟨p1, p2⟩, p3⟩ := q_adds hR2 hh
    rw [h0] at p2
    have hRP := p3.rq hR2
    exact ⟨P, by simp (disch := omega) only [f_X8_mean, reduceIte, ↓reduceIte, ↓ck_i, ↓nm_s, ↓bR_i, ↓bd_i, Option.isSome_some, Option.getD_some, gK, gR, gN, gIs, inb_nI, and_self, nI_clamp, fa_lit, pk_mul, nI_add, n10, n1z, n00, eq_self, not_true_eq_false, not_false_eq_true, hRN.1, hR2.1, hRP.1, q_isHolder_y hR2 hh, eP, p2], (KR.th (by omega) (by omega)).tr p3.kr, by rw [p3.1, sI_r, n2.1]; exact hb⟩
  · have t1 := p_tell (B := B) (x := uY T S h) (y := uR T S h) (M := N) hQN.1.1 (by omega) (by omega) (by omega)
    have e1 : f_X7_mean B (nI h) M = some (lN (uY T S h / Nat.gcd (uR T S h) (uY T S h)), sL N B 6 (lN (uR T S h / Nat.gcd (uR T S h) (uY T S h)))) := by
      simp (disch := omega) only [f_X7_mean, reduceIte, ↓reduceIte, ↓ck_i, ↓nm_s, ↓bR_i, ↓bd_i, Option.isSome_some, Option.getD_some, gK, gR, gN, gIs, inb_nI, and_self, nI_clamp, fa_lit, pk_mul, nI_add, n10, n1z, n00, eq_self, not_true_eq_false, not_false_eq_true, hC.a, hCN.a, hQ.2.1, ph, eN, l1', l2', nI_eq, h0, nI_l, t1]
    have kc := n2.kc
    refine ⟨_, _, e1, ⟨kc.1, fun a ha => by rw [sL_1]; exact kc.2.1 a ha, by rw [sL_ne (by omega)]; exact kc.2.2⟩, fun hRN hR2 hb => ?_⟩
    obtain ⟨P, eP, ⟨p1, p2⟩, p3⟩ := q_adds hR2 hh
    have hRP := p3.rq hR2
    have t2 := q_least (B := B) (x := uY T S h) (y := uR T S h) (M := P) hRP.1.1 (by omega) (by omega) (by omega)
    refine ⟨_, ?_, fr_r ((KR.th (j := 0) (v := nI 0) (by omega) (by omega)).tr p3.kr), fr_b (N := N) (by rw [p3.1, sI_r])⟩
    simp (disch := omega) only [f_X8_mean, reduceIte, ↓reduceIte, ↓ck_i, ↓nm_s, ↓bR_i, ↓bd_i, Option.isSome_some, Option.getD_some, gK, gR, gN, gIs, inb_nI, and_self, nI_clamp, fa_lit, pk_mul, nI_add, n10, n1z, n00, eq_self, not_true_eq_false, not_false_eq_true, hRN.1, hR2.1, hRP.1, q_isHolder_y hR2 hh, eP, p1, p2, nI_eq, h0, nI_l, t2]
end LUCK
