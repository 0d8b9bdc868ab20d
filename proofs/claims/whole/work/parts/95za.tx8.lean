/-! text: the class's token -/
def tkC (n : Nat) (tp : Nat → Nat) (f : Nat) : Nat := if tkK n tp f = 4 then 0 else tkK n tp f
def TkC (B : Nat) (N : Mm) (n : Nat) (tp : Nat → Nat) (f : Nat) : Prop := N.1 (B + 28) 5 = nI f ∧ N.1 (B + 28) 4 = nI (tkC n tp f) ∧ (tkK n tp f ≠ 4 → N.1 (B + 28) 6 = nI (tkE n tp f)) ∧ (tkK n tp f = 1 → N.1 (B + 28) 7 = wI 27 96 6 tp f (tkE n tp f - f)) ∧ (tkK n tp f = 2 → N.1 (B + 28) 7 = wI 10 48 5 tp f (tkE n tp f - f))
section TX8
variable {B n p f m v : Nat} {tp : Nat → Nat} {M N P Q : Mm}
theorem c_kind (hv : v < 256) : f_X3_kindOf (nI v) M = some (nI (if 97 ≤ v ∧ v ≤ 122 then 1 else if 48 ≤ v ∧ v ≤ 57 then 2 else if v = 59 then 3 else 0), M) := by
  have l1 : (nI v < (97 : Int32)) = (v < 97) := by rw [show (97 : Int32) = nI 97 from rfl]; rw [nI_ltI (by omega) (by omega)]
  have l2 : ((122 : Int32) < nI v) = (122 < v) := by rw [show (122 : Int32) = nI 122 from rfl]; rw [nI_ltI (by omega) (by omega)]
  have l3 : (nI v < (48 : Int32)) = (v < 48) := by rw [show (48 : Int32) = nI 48 from rfl]; rw [nI_ltI (by omega) (by omega)]
  have l4 : ((57 : Int32) < nI v) = (57 < v) := by rw [show (57 : Int32) = nI 57 from rfl]; rw [nI_ltI (by omega) (by omega)]
  have l5 : (nI v = (59 : Int32)) = (v = 59) := by rw [show (59 : Int32) = nI 59 from rfl]; rw [nI_eq (by omega) (by omega)]
  unfold f_X3_kindOf f_X3_kindOf_14
  simp only [l1, l2, l3, l4, l5]
  by_cases a1 : 97 ≤ v ∧ v ≤ 122
  · rw [if_neg (by omega), if_neg (by omega), if_pos a1]; rfl
  · rw [if_neg a1]
    have e : (if v < 48 then (if ¬ v = 59 then some ((0 : Int32), M) else some ((3 : Int32), M)) else if 57 < v then (if ¬ v = 59 then some ((0 : Int32), M) else some ((3 : Int32), M)) else some ((2 : Int32), M)) = some (nI (if 48 ≤ v ∧ v ≤ 57 then 2 else if v = 59 then 3 else 0), M) := by
      by_cases a2 : 48 ≤ v ∧ v ≤ 57
      · rw [if_neg (by omega), if_neg (by omega), if_pos a2]; rfl
      · rw [if_neg a2]
        by_cases a3 : v = 59
        · rw [if_neg (by omega), if_pos (by omega), if_neg (by omega), if_pos a3]; rfl
        · rw [if_pos a3, if_neg a3]
          split
          · rfl
          · rw [if_pos (by omega)]; rfl
    rw [e]
    split
    · rfl
    · rw [if_pos (by omega)]
end TX8
