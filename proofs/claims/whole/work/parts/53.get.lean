section GET
variable {B t a l : Nat} {T S : Nat → Nat} {M : Mm} {sh : Shp}
theorem p_spotOf (l k : Nat) (M : Mm) : f_X7_spotOf (nI l) (nI (k + 1)) M = some (nI (60 * l + k), M) := by
  simp only [f_X7_spotOf, fa_lit, pk_mul, nI_add]
  rw [pk_sub (by omega)]
  congr 3
  omega
theorem p_cellOf (l y : Nat) (M : Mm) : f_X7_cellOf (nI l) (nI y) M = some (nI (21 * l + y), M) := by
  simp only [f_X7_cellOf, fa_lit, pk_mul, nI_add]
  congr 3
  omega
theorem p_countBonds_6 (hM : M.2.2 = sh) (hT : TmA t sh) (hS : StA a sh) (hW : TW T) (hc : CT M.1 t T) (hs : CS M.1 a T S) (hl : l < T 0) (st : Nat) (hst : st < 2 ^ 31) (hb : ∀ k, k < T (12 + 7 * l) → S (60 * l + k) < 2 ^ 31) :
    ∀ (d k n : Nat), k + d = T (12 + 7 * l) → d < n → f_X5_countBonds_6 n a t (nI l) (nI st) (nI (fb_ct (fun k => decide (S (60 * l + k) = st)) k)) (nI (k + 1)) M = some (nI (ctS T S l st), M) := by
  intro d
  have w0 := hW.1
  have w := hW.2.2 l hl
  have c2 := hc.2.2.1 l hl
  have s2 := hs.2.2.2.2 l hl
  induction d with
  | zero =>
    intro k n hk hn
    obtain ⟨n, rfl⟩ : ∃ m, n = m + 1 := ⟨n - 1, by omega⟩
    have hk : k = T (12 + 7 * l) := by omega
    subst hk
    simp (disch := omega) only [f_X5_countBonds_6, gK, gR, gN, gIs, hM, hT, hS, bR_s, ck, inb_nI, and_self, ite_true, nI_clamp, c2, nI_ltI, Nat.lt_succ_self]
    rfl
  | succ d ih =>
    intro k n hk hn
    obtain ⟨n, rfl⟩ : ∃ m, n = m + 1 := ⟨n - 1, by omega⟩
    have hk2 : ¬ T (12 + 7 * l) < k + 1 := by omega
    have s3 := s2 k (by omega)
    have hb := hb k (by omega)
    have ih := ih (k + 1) n (by omega) (by omega)
    simp (disch := omega) only [f_X5_countBonds_6, gK, gR, gN, gIs, hM, hT, hS, bR_s, bd_s, p_spotOf, ck, inb_nI, and_self, ite_true, nI_clamp, c2, nI_ltI, hk2, ite_false, s3, nI_eq, nI_1]
    rw [fb_ct_succ] at ih
    by_cases hq : S (60 * l + k) = st
    · simp only [hq, decide_true, ite_true, not_true, ite_false] at ih ⊢
      exact ih
    · simp only [hq, decide_false, not_false_eq_true, ite_true, Bool.false_eq_true, ite_false, Nat.add_zero] at ih ⊢
      exact ih
end GET
