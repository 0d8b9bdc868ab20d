/-! text: the class's advance -/
section TX9
variable {B n p f m v : Nat} {tp : Nat → Nat} {M N P Q : Mm}
theorem tkC_3 : tkC n tp f ≤ 3 := by
  unfold tkC tkK
  (repeat' split) <;> omega
theorem c_60 (h : GC B M n tp) (h5 : M.1 (B + 28) 5 = nI f) (hf : f ≤ n) : f_X3_advance_60 (B + 28) M = f_X3_advance_96 (B + 28) (nI (tkC n tp f)) (B + 28) (sI M (B + 28) 6 (nI f)) := by
  have hD : CmD B M.2.2 := h.1
  have n7 := h.2.2.1
  have h2 := h.sI (j := 6) (v := nI f) (by omega)
  have s2 := h2.2.1
  have s5 : (sI M (B + 28) 6 (nI f)).1 (B + 28) 5 = nI f := by rw [sI_oth (by omega)]; exact h5
  by_cases e : f < n
  · obtain ⟨b, t8⟩ := h2.2.2.2 f e
    have e0 : ¬ n ≤ f := by omega
    have ck := c_kind t8 (M := sI M (B + 28) 6 (nI f))
    have ek : (if 97 ≤ tp f ∧ tp f ≤ 122 then 1 else if 48 ≤ tp f ∧ tp f ≤ 57 then 2 else if tp f = 59 then 3 else 0) = tkC n tp f := by
      unfold tkC tkK
      rw [if_neg e0]
      (repeat' split) <;> omega
    rw [ek] at ck
    simp (disch := omega) only [f_X3_advance_60, reduceIte, ↓reduceIte, ↓ck_i, ↓nm_s, ↓bR_i, ↓bd_i, Option.isSome_some, Option.getD_some, gK, gR, gN, gIs, inb_nI, and_self, nI_clamp, fa_lit, pk_mul, nI_add, n10, n1z, n00, eq_self, not_true_eq_false, not_false_eq_true, hD.a, h5, s5, s2, sI_r, nI_leI, e0, b, ck]
  · have e0 : n ≤ f := by omega
    have ek : tkC n tp f = 0 := by
      unfold tkC tkK
      rw [if_pos e0, if_neg (by decide)]
    rw [ek]
    simp (disch := omega) only [f_X3_advance_60, reduceIte, ↓reduceIte, ↓ck_i, ↓nm_s, ↓bR_i, ↓bd_i, Option.isSome_some, Option.getD_some, gK, gR, gN, gIs, inb_nI, and_self, nI_clamp, fa_lit, pk_mul, nI_add, n10, n1z, n00, eq_self, not_true_eq_false, not_false_eq_true, hD.a, h5, s5, s2, sI_r, nI_leI, e0]
end TX9
