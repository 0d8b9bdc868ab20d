/-! text: the class's token -/
def tkC (n : Nat) (tp : Nat → Nat) (f : Nat) : Nat := if tkK n tp f = 4 then 0 else tkK n tp f
def TkC (B : Nat) (N : Mm) (n : Nat) (tp : Nat → Nat) (f : Nat) : Prop := N.1 (B + 28) 5 = nI f ∧ N.1 (B + 28) 4 = nI (tkC n tp f) ∧ (tkK n tp f ≠ 4 → N.1 (B + 28) 6 = nI (tkE n tp f)) ∧ (tkK n tp f = 1 → N.1 (B + 28) 7 = wI 27 96 6 tp f (tkE n tp f - f)) ∧ (tkK n tp f = 2 → N.1 (B + 28) 7 = wI 10 48 5 tp f (tkE n tp f - f))
section TX8
variable {B n p f m v : Nat} {tp : Nat → Nat} {M N P Q : Mm}
theorem c_kind (hv : v < 256) : f_X3_kindOf (nI v) M = some (nI (if 97 ≤ v ∧ v ≤ 122 then 1 else if 48 ≤ v ∧ v ≤ 57 then 2 else if v = 59 then 3 else 0), M) := by
  have l1 : (nI v < (97 : Int32)) = (v < 97) := by rw [show (97 : Int32) = nI 97 from rfl]; rw [nI_ltI (by omega) (by omega)]
  have l2 : ((122 : Int32) < nI v) = (122 < v) := by rw [show (122 : Int32) = nI 122 from rfl]; rw [nI_ltI (by omega) (by omega)]
  have l3 : (nI v < (48 : Int32)) = (v < 48) := by rw [show (48 : Int32) = nI 48 from rfl]; rw [nI_ltI (by omega) (by omega)]
  have l4 : ((57 : Int32) < nI v) = (57 < v) := by rw [show (57 : Int32) = nI 57 from rfl]; rw [nI_ltI (by omega) (by omega)]
  have l5 : (nI v = (59 : Int32)) = (v = 59) := by rw [show (59 : Int32) = nI 59 from rfl]; rw [nI_eq (by omega) (by omega)]
  unfold f_X3_kindOf f_X3_kindOf_14
  simp only [l1, l2, l3, l4, l5]
  by_cases a1 : 97 ≤ v ∧ v ≤ 122
  · rw [if_neg (by omega), if_neg (by omega), if_pos a1]; rfl
  · rw [if_neg a1]
    have e : (if v < 48 then (if ¬ v = 59 then some ((0 : Int32), M) else some ((3 : Int32), M)) else if 57 < v then (if ¬ v = 59 then some ((0 : Int32), M) else some ((3 : Int32), M)) else some ((2 : Int32), M)) = some (nI (if 48 ≤ v ∧ v ≤ 57 then 2 else if v = 59 then 3 else 0), M) := by
      by_cases a2 : 48 ≤ v ∧ v ≤ 57
      · rw [if_neg (by omega), if_neg (by omega), if_pos a2]; rfl
      · rw [if_neg a2]
        by_cases a3 : v = 59
        · rw [if_neg (by omega), if_pos (by omega), if_neg (by omega), if_pos a3]; rfl
        · rw [if_pos a3, if_neg a3]
          split
          · rfl
          · rw [if_pos (by omega)]; rfl
    rw [e]
    split
    · rfl
    · rw [if_pos (by omega)]
theorem c_96 {y : Nat} (h : GC B M n tp) (h4 : y ≤ 3) : f_X3_advance_96 (B + 28) (nI y) (B + 28) M = if y = 3 then some ((), sI (sI M (B + 28) 4 (nI 3)) (B + 28) 6 (M.1 (B + 28) 5 + 1)) else if y = 0 then some ((), sI M (B + 28) 4 (nI 0)) else f_X3_takeAlike (B + 28) (sI M (B + 28) 4 (nI y)) := by
  have hD : CmD B M.2.2 := h.1
  have k3 : gK M (B + 28) = 3 := by simp (disch := omega) only [reduceIte, ↓reduceIte, ↓ck_i, ↓nm_s, ↓bR_i, ↓bd_i, Option.isSome_some, Option.getD_some, gK, gR, gN, gIs, inb_nI, and_self, nI_clamp, fa_lit, pk_mul, nI_add, n10, n1z, n00, eq_self, not_true_eq_false, not_false_eq_true, hD.a]
  have k3b : ∀ v, gK (sI M (B + 28) 4 v) (B + 28) = 3 := fun v => k3
  have g4 : ∀ v, gI (sI M (B + 28) 4 v) (B + 28) 4 = v := fun v => sI_hit
  have g5 : ∀ v, gI (sI M (B + 28) 4 v) (B + 28) 5 = M.1 (B + 28) 5 := fun v => sI_oth (by omega)
  rw [f_X3_advance_96, ck_t k3, nm_s, ck_t (k3b _), g4]
  by_cases e3 : y = 3
  · subst e3
    rw [if_neg (by decide), ck_t (k3b _), ck_t (k3b _), nm_s, g5, if_pos rfl]
  · rw [if_neg e3, if_pos (show ¬ nI y = (3 : Int32) by show ¬ nI y = nI 3; rw [nI_eq (by omega) (by omega)]; exact e3), ck_t (k3b _)]
    by_cases e0 : y = 0
    · subst e0
      rw [if_pos (show nI 0 = (0 : Int32) from rfl), if_pos rfl]
    · rw [if_neg e0, if_neg (show ¬ nI y = (0 : Int32) by show ¬ nI y = nI 0; rw [nI_eq (by omega) (by omega)]; exact e0), ck_t (k3b _)]
      cases f_X3_takeAlike (B + 28) (sI M (B + 28) 4 (nI y)) with
      | none => rfl
      | some q => rfl
theorem c_ta1 (h : GC B M n tp) (h4 : M.1 (B + 28) 4 = nI 1) : f_X3_takeAlike (B + 28) M = f_X3_takeAlike_86 FU (B + 28) (nI 97) (nI 122) (nI 27) (nI 96) (nI 6) (sI M (B + 28) 7 (nI 0)) := by
  have hD : CmD B M.2.2 := h.1
  have k3 : gK M (B + 28) = 3 := by simp (disch := omega) only [reduceIte, ↓reduceIte, ↓ck_i, ↓nm_s, ↓bR_i, ↓bd_i, Option.isSome_some, Option.getD_some, gK, gR, gN, gIs, inb_nI, and_self, nI_clamp, fa_lit, pk_mul, nI_add, n10, n1z, n00, eq_self, not_true_eq_false, not_false_eq_true, hD.a]
  have g4 : ¬ ¬ gI M (B + 28) 4 = (1 : Int32) := fun q => q h4
  rw [f_X3_takeAlike, ck_t k3, if_neg g4, ck_t k3, if_neg g4, f_X3_takeAlike_31, ck_t k3, if_neg g4, ck_t k3, if_neg g4, f_X3_takeAlike_63, ck_t k3, if_neg g4, ck_t k3, nm_s, show (97 : Int32) = nI 97 from rfl, show (122 : Int32) = nI 122 from rfl, show (27 : Int32) = nI 27 from rfl, show (96 : Int32) = nI 96 from rfl, show (6 : Int32) = nI 6 from rfl, show (0 : Int32) = nI 0 from rfl]
theorem c_ta2 (h : GC B M n tp) (h4 : M.1 (B + 28) 4 = nI 2) : f_X3_takeAlike (B + 28) M = f_X3_takeAlike_86 FU (B + 28) (nI 48) (nI 57) (nI 10) (nI 48) (nI 5) (sI M (B + 28) 7 (nI 0)) := by
  have hD : CmD B M.2.2 := h.1
  have k3 : gK M (B + 28) = 3 := by simp (disch := omega) only [reduceIte, ↓reduceIte, ↓ck_i, ↓nm_s, ↓bR_i, ↓bd_i, Option.isSome_some, Option.getD_some, gK, gR, gN, gIs, inb_nI, and_self, nI_clamp, fa_lit, pk_mul, nI_add, n10, n1z, n00, eq_self, not_true_eq_false, not_false_eq_true, hD.a]
  have g4 : ¬ gI M (B + 28) 4 = (1 : Int32) := fun q => absurd (h4.symm.trans q) (by decide)
  rw [f_X3_takeAlike, ck_t k3, if_pos g4, ck_t k3, if_pos g4, f_X3_takeAlike_31, ck_t k3, if_pos g4, ck_t k3, if_pos g4, f_X3_takeAlike_63, ck_t k3, if_pos g4, ck_t k3, nm_s, show (48 : Int32) = nI 48 from rfl, show (57 : Int32) = nI 57 from rfl, show (10 : Int32) = nI 10 from rfl, show (5 : Int32) = nI 5 from rfl, show (0 : Int32) = nI 0 from rfl]
end TX8
