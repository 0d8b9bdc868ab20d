/-! text: the class's next token -/
/-- the class reads n bytes of tp -/
def GC (B : Nat) (M : Mm) (n : Nat) (tp : Nat → Nat) : Prop := CmA B M.2.2 ∧ M.1 (B + 28) 2 = nI n ∧ n ≤ 700 ∧ ∀ k, k < n → M.1 (B + 29) k = nI (tp k) ∧ tp k < 256
section TX6
variable {B n p f m v : Nat} {tp : Nat → Nat} {M N P Q : Mm}
theorem GC.sI {j : Nat} {v : Int32} (h : GC B M n tp) (hj : j ≠ 2) : GC B (sI M (B + 28) j v) n tp := by
  refine ⟨h.1, ?_, h.2.2.1, fun k hk => ?_⟩
  · rw [sI_oth (by omega)]; exact h.2.1
  · rw [sI_ne (by omega)]; exact h.2.2.2 k hk
theorem c_blank (h : GC B M n tp) (h5 : M.1 (B + 28) 5 = nI p) (hp : p < n) (hb : tp p = 32 ∨ tp p = 10) : f_X3_advance_8 (m + 1) (B + 28) M = f_X3_advance_8 m (B + 28) (sI M (B + 28) 5 (nI (p + 1))) := by
  have hD : CmD B M.2.2 := h.1
  have n7 := h.2.2.1
  have s2 := h.2.1
  have b := (h.2.2.2 p hp).1
  have e0 : ¬ n ≤ p := by omega
  by_cases e : tp p = 32
  · rw [e] at b
    have q : (nI 32 = nI 32) = True := by decide
    simp (disch := omega) only [f_X3_advance_8, reduceIte, ↓reduceIte, ↓ck_i, ↓nm_s, ↓bR_i, ↓bd_i, Option.isSome_some, Option.getD_some, gK, gR, gN, gIs, inb_nI, and_self, nI_clamp, fa_lit, pk_mul, nI_add, n10, n1z, n00, eq_self, not_true_eq_false, not_false_eq_true, hD.a, h5, s2, nI_leI, e0, b, q]
  · have e2 : tp p = 10 := by omega
    rw [e2] at b
    have q : (nI 10 = nI 32) = False := by decide
    have q2 : (nI 10 = nI 10) = True := by decide
    simp (disch := omega) only [f_X3_advance_8, reduceIte, ↓reduceIte, ↓ck_i, ↓nm_s, ↓bR_i, ↓bd_i, Option.isSome_some, Option.getD_some, gK, gR, gN, gIs, inb_nI, and_self, nI_clamp, fa_lit, pk_mul, nI_add, n10, n1z, n00, eq_self, not_true_eq_false, not_false_eq_true, hD.a, h5, s2, nI_leI, e0, b, q, q2]
theorem c_stop (h : GC B M n tp) (h5 : M.1 (B + 28) 5 = nI p) (hp : p ≤ n) (hb : p = n ∨ ¬ (tp p = 32 ∨ tp p = 10)) : f_X3_advance_8 (m + 1) (B + 28) M = f_X3_advance_60 (B + 28) M := by
  have hD : CmD B M.2.2 := h.1
  have n7 := h.2.2.1
  have s2 := h.2.1
  by_cases e : p < n
  · obtain ⟨b, t8⟩ := h.2.2.2 p e
    have e0 : ¬ n ≤ p := by omega
    have q1 : (nI (tp p) = nI 32) = False := by rw [nI_eq (by omega) (by omega)]; exact eq_false (by omega)
    have q2 : (nI (tp p) = nI 10) = False := by rw [nI_eq (by omega) (by omega)]; exact eq_false (by omega)
    simp (disch := omega) only [f_X3_advance_8, reduceIte, ↓reduceIte, ↓ck_i, ↓nm_s, ↓bR_i, ↓bd_i, Option.isSome_some, Option.getD_some, gK, gR, gN, gIs, inb_nI, and_self, nI_clamp, fa_lit, pk_mul, nI_add, n10, n1z, n00, eq_self, not_true_eq_false, not_false_eq_true, hD.a, h5, s2, nI_leI, e0, b, q1, q2]
  · have e0 : n ≤ p := by omega
    simp (disch := omega) only [f_X3_advance_8, reduceIte, ↓reduceIte, ↓ck_i, ↓nm_s, ↓bR_i, ↓bd_i, Option.isSome_some, Option.getD_some, gK, gR, gN, gIs, inb_nI, and_self, nI_clamp, fa_lit, pk_mul, nI_add, n10, n1z, n00, eq_self, not_true_eq_false, not_false_eq_true, hD.a, h5, s2, nI_leI, e0]
theorem c_skip : ∀ (d p m : Nat) (M : Mm), GC B M n tp → M.1 (B + 28) 5 = nI p → p + d = n → d < m → f_X3_advance_8 m (B + 28) M = f_X3_advance_60 (B + 28) (sI M (B + 28) 5 (nI (skB tp d p))) := by
  intro d
  induction d with
  | zero =>
    intro p m M h h5 hd hm
    obtain ⟨m, rfl⟩ : ∃ q, m = q + 1 := ⟨m - 1, by omega⟩
    show _ = f_X3_advance_60 (B + 28) (sI M (B + 28) 5 (nI p))
    rw [c_stop h h5 (by omega) (Or.inl (by omega)), ← h5, sI_self]
  | succ d ih =>
    intro p m M h h5 hd hm
    obtain ⟨m, rfl⟩ : ∃ q, m = q + 1 := ⟨m - 1, by omega⟩
    by_cases e : tp p = 32 ∨ tp p = 10
    · have es : skB tp (d + 1) p = skB tp d (p + 1) := if_pos e
      rw [c_blank h h5 (by omega) e, ih (p + 1) m _ (h.sI (by omega)) sI_hit (by omega) (by omega), es, sI_sI]
    · have es : skB tp (d + 1) p = p := if_neg e
      rw [c_stop h h5 (by omega) (Or.inr e), es, ← h5, sI_self]
end TX6
