/-! text: the reference's words and numbers -/
def wI (b z most : Nat) (tp : Nat → Nat) (f i : Nat) : Int32 := if i ≤ most then nI (wvB b z tp f i) else -nI 1
section TX3
variable {B n p f m v : Nat} {tp : Nat → Nat} {P Q : Mm}
theorem wi_az (hv : v < 256) (M : Mm) : f_X8_within (nI v).toInt64 97 122 M = some (if 97 ≤ v ∧ v ≤ 122 then nI 1 else nI 0, M) := by
  have h := wiN (nI v) (lo := 97) (hi := 122) (by omega) (by omega) M
  rw [show (97 : Int64) = lN 97 from rfl, show (122 : Int64) = lN 122 from rfl, h]
  by_cases e1 : v < 97
  · rw [if_pos (by rw [nI_ltI (by omega) (by omega)]; exact e1), if_neg (by omega)]
  · rw [if_neg (by rw [nI_ltI (by omega) (by omega)]; exact e1)]
    by_cases e2 : 122 < v
    · rw [if_pos (by rw [nI_ltI (by omega) (by omega)]; exact e2), if_neg (by omega)]
    · rw [if_neg (by rw [nI_ltI (by omega) (by omega)]; exact e2), if_pos (by omega)]
theorem wi_09 (hv : v < 256) (M : Mm) : f_X8_within (nI v).toInt64 48 57 M = some (if 48 ≤ v ∧ v ≤ 57 then nI 1 else nI 0, M) := by
  have h := wiN (nI v) (lo := 48) (hi := 57) (by omega) (by omega) M
  rw [show (48 : Int64) = lN 48 from rfl, show (57 : Int64) = lN 57 from rfl, h]
  by_cases e1 : v < 48
  · rw [if_pos (by rw [nI_ltI (by omega) (by omega)]; exact e1), if_neg (by omega)]
  · rw [if_neg (by rw [nI_ltI (by omega) (by omega)]; exact e1)]
    by_cases e2 : 57 < v
    · rw [if_pos (by rw [nI_ltI (by omega) (by omega)]; exact e2), if_neg (by omega)]
    · rw [if_neg (by rw [nI_ltI (by omega) (by omega)]; exact e2), if_pos (by omega)]
theorem wi_az1 (M : Mm) : f_X8_within (-nI 1).toInt64 97 122 M = some (nI 0, M) := by
  have h := wiN (-nI 1) (lo := 97) (hi := 122) (by omega) (by omega) M
  rw [show (97 : Int64) = lN 97 from rfl, show (122 : Int64) = lN 122 from rfl, h, if_pos (by decide)]
theorem wi_091 (M : Mm) : f_X8_within (-nI 1).toInt64 48 57 M = some (nI 0, M) := by
  have h := wiN (-nI 1) (lo := 48) (hi := 57) (by omega) (by omega) M
  rw [show (48 : Int64) = lN 48 from rfl, show (57 : Int64) = lN 57 from rfl, h, if_pos (by decide)]
end TX3
