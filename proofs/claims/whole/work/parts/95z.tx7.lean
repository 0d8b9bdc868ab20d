/-! text: the class's words and numbers -/
/-- the class changed nothing but its token -/
def KTc (B : Nat) (M N : Mm) : Prop := N.2 = M.2 ∧ (∀ b, b ≠ B + 28 → N.1 b = M.1 b) ∧ ∀ j, (j < 4 ∨ 7 < j) → N.1 (B + 28) j = M.1 (B + 28) j
section TX7
variable {B n p f m v : Nat} {tp : Nat → Nat} {M N P Q : Mm}
theorem KTc.tr (h : KTc B M N) (g : KTc B N P) : KTc B M P := ⟨g.1.trans h.1, fun b hb => (g.2.1 b hb).trans (h.2.1 b hb), fun j hj => (g.2.2 j hj).trans (h.2.2 j hj)⟩
theorem c_w_in (h : GC B M n tp) (h5 : M.1 (B + 28) 5 = nI f) (h6 : M.1 (B + 28) 6 = nI p) (h7 : M.1 (B + 28) 7 = nI v) (hf : f ≤ p) (hp : p < n) (hb : 97 ≤ tp p ∧ tp p ≤ 122) (hm : p - f < 6) (hv : v < 2 ^ 25) : f_X3_takeAlike_86 (m + 1) (B + 28) (nI 97) (nI 122) (nI 27) (nI 96) (nI 6) M = f_X3_takeAlike_86 m (B + 28) (nI 97) (nI 122) (nI 27) (nI 96) (nI 6) (sI (sI M (B + 28) 7 (nI (27 * v + (tp p - 96)))) (B + 28) 6 (nI (p + 1))) := by
  have hD : CmD B M.2.2 := h.1
  have n7 := h.2.2.1
  have s2 := h.2.1
  obtain ⟨b, t8⟩ := h.2.2.2 p hp
  have e0 : ¬ n ≤ p := by omega
  have e1 : ¬ tp p < 97 := by omega
  have e2 : ¬ 122 < tp p := by omega
  have q : (nI 6 ≤ nI p - nI f) = False := by
    rw [pk_sub hf, nI_leI (by omega) (by omega)]
    exact eq_false (by omega)
  have a : nI (tp p) - nI 96 = nI (tp p - 96) := pk_sub (by omega)
  have h6b : (sI M (B + 28) 7 (nI (27 * v + (tp p - 96)))).1 (B + 28) 6 = nI p := by rw [sI_oth (by omega)]; exact h6
  have cm : v * 27 = 27 * v := Nat.mul_comm _ _
  simp (disch := omega) only [f_X3_takeAlike_86, reduceIte, ↓reduceIte, ↓ck_i, ↓nm_s, ↓bR_i, ↓bd_i, Option.isSome_some, Option.getD_some, gK, gR, gN, gIs, inb_nI, and_self, nI_clamp, fa_lit, pk_mul, nI_add, n10, n1z, n00, eq_self, not_true_eq_false, not_false_eq_true, hD.a, h5, h6, h7, s2, nI_leI, nI_ltI, e0, e1, e2, b, q, a, cm, h6b, sI_r]
theorem c_w_many (h : GC B M n tp) (h5 : M.1 (B + 28) 5 = nI f) (h6 : M.1 (B + 28) 6 = nI p) (hf : f ≤ p) (hp : p < n) (hb : 97 ≤ tp p ∧ tp p ≤ 122) (hm : 6 ≤ p - f) : f_X3_takeAlike_86 (m + 1) (B + 28) (nI 97) (nI 122) (nI 27) (nI 96) (nI 6) M = f_X3_takeAlike_86 m (B + 28) (nI 97) (nI 122) (nI 27) (nI 96) (nI 6) (sI (sI M (B + 28) 7 (-nI 1)) (B + 28) 6 (nI (p + 1))) := by
  have hD : CmD B M.2.2 := h.1
  have n7 := h.2.2.1
  have s2 := h.2.1
  obtain ⟨b, t8⟩ := h.2.2.2 p hp
  have e0 : ¬ n ≤ p := by omega
  have e1 : ¬ tp p < 97 := by omega
  have e2 : ¬ 122 < tp p := by omega
  have q : (nI 6 ≤ nI p - nI f) = True := by
    rw [pk_sub hf, nI_leI (by omega) (by omega)]
    exact eq_true (by omega)
  have h6b : (sI M (B + 28) 7 (-nI 1)).1 (B + 28) 6 = nI p := by rw [sI_oth (by omega)]; exact h6
  simp (disch := omega) only [f_X3_takeAlike_86, reduceIte, ↓reduceIte, ↓ck_i, ↓nm_s, ↓bR_i, ↓bd_i, Option.isSome_some, Option.getD_some, gK, gR, gN, gIs, inb_nI, and_self, nI_clamp, fa_lit, pk_mul, nI_add, n10, n1z, n00, eq_self, not_true_eq_false, not_false_eq_true, hD.a, h5, h6, s2, nI_leI, nI_ltI, e0, e1, e2, b, q, h6b, sI_r]
theorem c_w_out (h : GC B M n tp) (h6 : M.1 (B + 28) 6 = nI p) (hp : p ≤ n) (hb : p = n ∨ ¬ (97 ≤ tp p ∧ tp p ≤ 122)) : f_X3_takeAlike_86 (m + 1) (B + 28) (nI 97) (nI 122) (nI 27) (nI 96) (nI 6) M = some ((), M) := by
  have hD : CmD B M.2.2 := h.1
  have n7 := h.2.2.1
  have s2 := h.2.1
  by_cases e : p < n
  · obtain ⟨b, t8⟩ := h.2.2.2 p e
    have e0 : ¬ n ≤ p := by omega
    by_cases e1 : tp p < 97
    · simp (disch := omega) only [f_X3_takeAlike_86, reduceIte, ↓reduceIte, ↓ck_i, ↓nm_s, ↓bR_i, ↓bd_i, Option.isSome_some, Option.getD_some, gK, gR, gN, gIs, inb_nI, and_self, nI_clamp, fa_lit, pk_mul, nI_add, n10, n1z, n00, eq_self, not_true_eq_false, not_false_eq_true, hD.a, h6, s2, nI_leI, nI_ltI, e0, e1, b]
    · have e2 : 122 < tp p := by omega
      simp (disch := omega) only [f_X3_takeAlike_86, reduceIte, ↓reduceIte, ↓ck_i, ↓nm_s, ↓bR_i, ↓bd_i, Option.isSome_some, Option.getD_some, gK, gR, gN, gIs, inb_nI, and_self, nI_clamp, fa_lit, pk_mul, nI_add, n10, n1z, n00, eq_self, not_true_eq_false, not_false_eq_true, hD.a, h6, s2, nI_leI, nI_ltI, e0, e1, e2, b]
  · have e0 : n ≤ p := by omega
    simp (disch := omega) only [f_X3_takeAlike_86, reduceIte, ↓reduceIte, ↓ck_i, ↓nm_s, ↓bR_i, ↓bd_i, Option.isSome_some, Option.getD_some, gK, gR, gN, gIs, inb_nI, and_self, nI_clamp, fa_lit, pk_mul, nI_add, n10, n1z, n00, eq_self, not_true_eq_false, not_false_eq_true, hD.a, h6, s2, nI_leI, e0]
theorem c_w_lp : ∀ (d p m : Nat) (M : Mm), GC B M n tp → M.1 (B + 28) 5 = nI f → M.1 (B + 28) 6 = nI p → M.1 (B + 28) 7 = wI 27 96 6 tp f (p - f) → f ≤ p → (∀ q, f ≤ q → q < p → 97 ≤ tp q ∧ tp q ≤ 122) → p + d = n → d < m → ∃ N, f_X3_takeAlike_86 m (B + 28) (nI 97) (nI 122) (nI 27) (nI 96) (nI 6) M = some ((), N) ∧ KTc B M N ∧ N.1 (B + 28) 4 = M.1 (B + 28) 4 ∧ N.1 (B + 28) 5 = nI f ∧ N.1 (B + 28) 6 = nI (rnB 97 122 tp d p) ∧ N.1 (B + 28) 7 = wI 27 96 6 tp f (rnB 97 122 tp d p - f) := by
  intro d
  induction d with
  | zero =>
    intro p m M h h5 h6 h7 hf hl hd hm
    obtain ⟨m, rfl⟩ : ∃ q, m = q + 1 := ⟨m - 1, by omega⟩
    exact ⟨M, c_w_out h h6 (by omega) (Or.inl (by omega)), ⟨rfl, fun _ _ => rfl, fun _ _ => rfl⟩, rfl, h5, h6, h7⟩
  | succ d ih =>
    intro p m M h h5 h6 h7 hf hl hd hm
    obtain ⟨m, rfl⟩ : ∃ q, m = q + 1 := ⟨m - 1, by omega⟩
    by_cases e : 97 ≤ tp p ∧ tp p ≤ 122
    · have er : rnB 97 122 tp (d + 1) p = rnB 97 122 tp d (p + 1) := if_pos e
      rw [er]
      have step : f_X3_takeAlike_86 (m + 1) (B + 28) (nI 97) (nI 122) (nI 27) (nI 96) (nI 6) M = f_X3_takeAlike_86 m (B + 28) (nI 97) (nI 122) (nI 27) (nI 96) (nI 6) (sI (sI M (B + 28) 7 (wI 27 96 6 tp f (p + 1 - f))) (B + 28) 6 (nI (p + 1))) := by
        by_cases hk : p - f < 6
        · have vb := wvB_27 (tp := tp) (f := f) (p - f) (fun q hq => hl (f + q) (by omega) (by omega))
          have vp : 27 ^ (p - f) ≤ 27 ^ (6 - 1) := Nat.pow_le_pow_right (by omega) (by omega)
          have vc : 27 ^ (6 - 1) ≤ 2 ^ 25 := by decide
          unfold wI at h7 ⊢
          rw [if_pos (by omega)] at h7
          rw [if_pos (by omega), show p + 1 - f = (p - f) + 1 by omega]
          have e9 : wvB 27 96 tp f (p - f + 1) = 27 * wvB 27 96 tp f (p - f) + (tp p - 96) := by
            show 27 * wvB 27 96 tp f (p - f) + (tp (f + (p - f)) - 96) = _
            rw [show f + (p - f) = p by omega]
          rw [e9]
          exact c_w_in h h5 h6 h7 hf (by omega) e hk (Nat.lt_of_lt_of_le vb (Nat.le_trans vp vc))
        · unfold wI
          rw [if_neg (by omega)]
          exact c_w_many h h5 h6 hf (by omega) e (by omega)
      rw [step]
      obtain ⟨N, q1, q2, q3, q4, q5, q6⟩ := ih (p + 1) m (sI (sI M (B + 28) 7 (wI 27 96 6 tp f (p + 1 - f))) (B + 28) 6 (nI (p + 1))) ((h.sI (by omega)).sI (by omega)) (by rw [sI_oth (by omega), sI_oth (by omega)]; exact h5) sI_hit (by rw [sI_oth (by omega), sI_hit]) (by omega) (fun q a1 a2 => by
        by_cases eq : q = p
        · rw [eq]; exact e
        · exact hl q a1 (by omega)) (by omega) (by omega)
      refine ⟨N, q1, ⟨q2.1, fun b hb => ?_, fun j hj => ?_⟩, ?_, q4, q5, q6⟩
      · rw [q2.2.1 b hb, sI_ne hb, sI_ne hb]
      · rw [q2.2.2 j hj, sI_oth (by omega), sI_oth (by omega)]
      · rw [q3, sI_oth (by omega), sI_oth (by omega)]
    · have er : rnB 97 122 tp (d + 1) p = p := if_neg e
      rw [er]
      exact ⟨M, c_w_out h h6 (by omega) (Or.inr e), ⟨rfl, fun _ _ => rfl, fun _ _ => rfl⟩, rfl, h5, h6, h7⟩
theorem c_n_in (h : GC B M n tp) (h5 : M.1 (B + 28) 5 = nI f) (h6 : M.1 (B + 28) 6 = nI p) (h7 : M.1 (B + 28) 7 = nI v) (hf : f ≤ p) (hp : p < n) (hb : 48 ≤ tp p ∧ tp p ≤ 57) (hm : p - f < 5) (hv : v < 2 ^ 25) : f_X3_takeAlike_86 (m + 1) (B + 28) (nI 48) (nI 57) (nI 10) (nI 48) (nI 5) M = f_X3_takeAlike_86 m (B + 28) (nI 48) (nI 57) (nI 10) (nI 48) (nI 5) (sI (sI M (B + 28) 7 (nI (10 * v + (tp p - 48)))) (B + 28) 6 (nI (p + 1))) := by
  have hD : CmD B M.2.2 := h.1
  have n7 := h.2.2.1
  have s2 := h.2.1
  obtain ⟨b, t8⟩ := h.2.2.2 p hp
  have e0 : ¬ n ≤ p := by omega
  have e1 : ¬ tp p < 48 := by omega
  have e2 : ¬ 57 < tp p := by omega
  have q : (nI 5 ≤ nI p - nI f) = False := by
    rw [pk_sub hf, nI_leI (by omega) (by omega)]
    exact eq_false (by omega)
  have a : nI (tp p) - nI 48 = nI (tp p - 48) := pk_sub (by omega)
  have h6b : (sI M (B + 28) 7 (nI (10 * v + (tp p - 48)))).1 (B + 28) 6 = nI p := by rw [sI_oth (by omega)]; exact h6
  have cm : v * 10 = 10 * v := Nat.mul_comm _ _
  simp (disch := omega) only [f_X3_takeAlike_86, reduceIte, ↓reduceIte, ↓ck_i, ↓nm_s, ↓bR_i, ↓bd_i, Option.isSome_some, Option.getD_some, gK, gR, gN, gIs, inb_nI, and_self, nI_clamp, fa_lit, pk_mul, nI_add, n10, n1z, n00, eq_self, not_true_eq_false, not_false_eq_true, hD.a, h5, h6, h7, s2, nI_leI, nI_ltI, e0, e1, e2, b, q, a, cm, h6b, sI_r]
theorem c_n_many (h : GC B M n tp) (h5 : M.1 (B + 28) 5 = nI f) (h6 : M.1 (B + 28) 6 = nI p) (hf : f ≤ p) (hp : p < n) (hb : 48 ≤ tp p ∧ tp p ≤ 57) (hm : 5 ≤ p - f) : f_X3_takeAlike_86 (m + 1) (B + 28) (nI 48) (nI 57) (nI 10) (nI 48) (nI 5) M = f_X3_takeAlike_86 m (B + 28) (nI 48) (nI 57) (nI 10) (nI 48) (nI 5) (sI (sI M (B + 28) 7 (-nI 1)) (B + 28) 6 (nI (p + 1))) := by
  have hD : CmD B M.2.2 := h.1
  have n7 := h.2.2.1
  have s2 := h.2.1
  obtain ⟨b, t8⟩ := h.2.2.2 p hp
  have e0 : ¬ n ≤ p := by omega
  have e1 : ¬ tp p < 48 := by omega
  have e2 : ¬ 57 < tp p := by omega
  have q : (nI 5 ≤ nI p - nI f) = True := by
    rw [pk_sub hf, nI_leI (by omega) (by omega)]
    exact eq_true (by omega)
  have h6b : (sI M (B + 28) 7 (-nI 1)).1 (B + 28) 6 = nI p := by rw [sI_oth (by omega)]; exact h6
  simp (disch := omega) only [f_X3_takeAlike_86, reduceIte, ↓reduceIte, ↓ck_i, ↓nm_s, ↓bR_i, ↓bd_i, Option.isSome_some, Option.getD_some, gK, gR, gN, gIs, inb_nI, and_self, nI_clamp, fa_lit, pk_mul, nI_add, n10, n1z, n00, eq_self, not_true_eq_false, not_false_eq_true, hD.a, h5, h6, s2, nI_leI, nI_ltI, e0, e1, e2, b, q, h6b, sI_r]
theorem c_n_out (h : GC B M n tp) (h6 : M.1 (B + 28) 6 = nI p) (hp : p ≤ n) (hb : p = n ∨ ¬ (48 ≤ tp p ∧ tp p ≤ 57)) : f_X3_takeAlike_86 (m + 1) (B + 28) (nI 48) (nI 57) (nI 10) (nI 48) (nI 5) M = some ((), M) := by
  have hD : CmD B M.2.2 := h.1
  have n7 := h.2.2.1
  have s2 := h.2.1
  by_cases e : p < n
  · obtain ⟨b, t8⟩ := h.2.2.2 p e
    have e0 : ¬ n ≤ p := by omega
    by_cases e1 : tp p < 48
    · simp (disch := omega) only [f_X3_takeAlike_86, reduceIte, ↓reduceIte, ↓ck_i, ↓nm_s, ↓bR_i, ↓bd_i, Option.isSome_some, Option.getD_some, gK, gR, gN, gIs, inb_nI, and_self, nI_clamp, fa_lit, pk_mul, nI_add, n10, n1z, n00, eq_self, not_true_eq_false, not_false_eq_true, hD.a, h6, s2, nI_leI, nI_ltI, e0, e1, b]
    · have e2 : 57 < tp p := by omega
      simp (disch := omega) only [f_X3_takeAlike_86, reduceIte, ↓reduceIte, ↓ck_i, ↓nm_s, ↓bR_i, ↓bd_i, Option.isSome_some, Option.getD_some, gK, gR, gN, gIs, inb_nI, and_self, nI_clamp, fa_lit, pk_mul, nI_add, n10, n1z, n00, eq_self, not_true_eq_false, not_false_eq_true, hD.a, h6, s2, nI_leI, nI_ltI, e0, e1, e2, b]
  · have e0 : n ≤ p := by omega
    simp (disch := omega) only [f_X3_takeAlike_86, reduceIte, ↓reduceIte, ↓ck_i, ↓nm_s, ↓bR_i, ↓bd_i, Option.isSome_some, Option.getD_some, gK, gR, gN, gIs, inb_nI, and_self, nI_clamp, fa_lit, pk_mul, nI_add, n10, n1z, n00, eq_self, not_true_eq_false, not_false_eq_true, hD.a, h6, s2, nI_leI, e0]
theorem c_n_lp : ∀ (d p m : Nat) (M : Mm), GC B M n tp → M.1 (B + 28) 5 = nI f → M.1 (B + 28) 6 = nI p → M.1 (B + 28) 7 = wI 10 48 5 tp f (p - f) → f ≤ p → (∀ q, f ≤ q → q < p → 48 ≤ tp q ∧ tp q ≤ 57) → p + d = n → d < m → ∃ N, f_X3_takeAlike_86 m (B + 28) (nI 48) (nI 57) (nI 10) (nI 48) (nI 5) M = some ((), N) ∧ KTc B M N ∧ N.1 (B + 28) 4 = M.1 (B + 28) 4 ∧ N.1 (B + 28) 5 = nI f ∧ N.1 (B + 28) 6 = nI (rnB 48 57 tp d p) ∧ N.1 (B + 28) 7 = wI 10 48 5 tp f (rnB 48 57 tp d p - f) := by
  intro d
  induction d with
  | zero =>
    intro p m M h h5 h6 h7 hf hl hd hm
    obtain ⟨m, rfl⟩ : ∃ q, m = q + 1 := ⟨m - 1, by omega⟩
    exact ⟨M, c_n_out h h6 (by omega) (Or.inl (by omega)), ⟨rfl, fun _ _ => rfl, fun _ _ => rfl⟩, rfl, h5, h6, h7⟩
  | succ d ih =>
    intro p m M h h5 h6 h7 hf hl hd hm
    obtain ⟨m, rfl⟩ : ∃ q, m = q + 1 := ⟨m - 1, by omega⟩
    by_cases e : 48 ≤ tp p ∧ tp p ≤ 57
    · have er : rnB 48 57 tp (d + 1) p = rnB 48 57 tp d (p + 1) := if_pos e
      rw [er]
      have step : f_X3_takeAlike_86 (m + 1) (B + 28) (nI 48) (nI 57) (nI 10) (nI 48) (nI 5) M = f_X3_takeAlike_86 m (B + 28) (nI 48) (nI 57) (nI 10) (nI 48) (nI 5) (sI (sI M (B + 28) 7 (wI 10 48 5 tp f (p + 1 - f))) (B + 28) 6 (nI (p + 1))) := by
        by_cases hk : p - f < 5
        · have vb := wvB_10 (tp := tp) (f := f) (p - f) (fun q hq => hl (f + q) (by omega) (by omega))
          have vp : 10 ^ (p - f) ≤ 10 ^ (5 - 1) := Nat.pow_le_pow_right (by omega) (by omega)
          have vc : 10 ^ (5 - 1) ≤ 2 ^ 25 := by decide
          unfold wI at h7 ⊢
          rw [if_pos (by omega)] at h7
          rw [if_pos (by omega), show p + 1 - f = (p - f) + 1 by omega]
          have e9 : wvB 10 48 tp f (p - f + 1) = 10 * wvB 10 48 tp f (p - f) + (tp p - 48) := by
            show 10 * wvB 10 48 tp f (p - f) + (tp (f + (p - f)) - 48) = _
            rw [show f + (p - f) = p by omega]
          rw [e9]
          exact c_n_in h h5 h6 h7 hf (by omega) e hk (Nat.lt_of_lt_of_le vb (Nat.le_trans vp vc))
        · unfold wI
          rw [if_neg (by omega)]
          exact c_n_many h h5 h6 hf (by omega) e (by omega)
      rw [step]
      obtain ⟨N, q1, q2, q3, q4, q5, q6⟩ := ih (p + 1) m (sI (sI M (B + 28) 7 (wI 10 48 5 tp f (p + 1 - f))) (B + 28) 6 (nI (p + 1))) ((h.sI (by omega)).sI (by omega)) (by rw [sI_oth (by omega), sI_oth (by omega)]; exact h5) sI_hit (by rw [sI_oth (by omega), sI_hit]) (by omega) (fun q a1 a2 => by
        by_cases eq : q = p
        · rw [eq]; exact e
        · exact hl q a1 (by omega)) (by omega) (by omega)
      refine ⟨N, q1, ⟨q2.1, fun b hb => ?_, fun j hj => ?_⟩, ?_, q4, q5, q6⟩
      · rw [q2.2.1 b hb, sI_ne hb, sI_ne hb]
      · rw [q2.2.2 j hj, sI_oth (by omega), sI_oth (by omega)]
      · rw [q3, sI_oth (by omega), sI_oth (by omega)]
    · have er : rnB 48 57 tp (d + 1) p = p := if_neg e
      rw [er]
      exact ⟨M, c_n_out h h6 (by omega) (Or.inr e), ⟨rfl, fun _ _ => rfl, fun _ _ => rfl⟩, rfl, h5, h6, h7⟩
end TX7
