/-! text: the reference's words and numbers -/
def wI (b z most : Nat) (tp : Nat → Nat) (f i : Nat) : Int32 := if i ≤ most then nI (wvB b z tp f i) else -nI 1
section TX3
variable {B n p f m v : Nat} {tp : Nat → Nat} {P Q : Mm}
theorem wi_az (hv : v < 256) (M : Mm) : f_X8_within (nI v).toInt64 97 122 M = some (if 97 ≤ v ∧ v ≤ 122 then nI 1 else nI 0, M) := by
  have h := wiN (nI v) (lo := 97) (hi := 122) (by omega) (by omega) M
  rw [show (97 : Int64) = lN 97 from rfl, show (122 : Int64) = lN 122 from rfl, h]
  by_cases e1 : v < 97
  · rw [if_pos (by rw [nI_ltI (by omega) (by omega)]; exact e1), if_neg (by omega)]
  · rw [if_neg (by rw [nI_ltI (by omega) (by omega)]; exact e1)]
    by_cases e2 : 122 < v
    · rw [if_pos (by rw [nI_ltI (by omega) (by omega)]; exact e2), if_neg (by omega)]
    · rw [if_neg (by rw [nI_ltI (by omega) (by omega)]; exact e2), if_pos (by omega)]
theorem wi_09 (hv : v < 256) (M : Mm) : f_X8_within (nI v).toInt64 48 57 M = some (if 48 ≤ v ∧ v ≤ 57 then nI 1 else nI 0, M) := by
  have h := wiN (nI v) (lo := 48) (hi := 57) (by omega) (by omega) M
  rw [show (48 : Int64) = lN 48 from rfl, show (57 : Int64) = lN 57 from rfl, h]
  by_cases e1 : v < 48
  · rw [if_pos (by rw [nI_ltI (by omega) (by omega)]; exact e1), if_neg (by omega)]
  · rw [if_neg (by rw [nI_ltI (by omega) (by omega)]; exact e1)]
    by_cases e2 : 57 < v
    · rw [if_pos (by rw [nI_ltI (by omega) (by omega)]; exact e2), if_neg (by omega)]
    · rw [if_neg (by rw [nI_ltI (by omega) (by omega)]; exact e2), if_pos (by omega)]
theorem wi_az1 (M : Mm) : f_X8_within (-nI 1).toInt64 97 122 M = some (nI 0, M) := by
  have h := wiN (-nI 1) (lo := 97) (hi := 122) (by omega) (by omega) M
  rw [show (97 : Int64) = lN 97 from rfl, show (122 : Int64) = lN 122 from rfl, h, if_pos (by decide)]
theorem wi_091 (M : Mm) : f_X8_within (-nI 1).toInt64 48 57 M = some (nI 0, M) := by
  have h := wiN (-nI 1) (lo := 48) (hi := 57) (by omega) (by omega) M
  rw [show (48 : Int64) = lN 48 from rfl, show (57 : Int64) = lN 57 from rfl, h, if_pos (by decide)]
theorem g_w_in (h : GT B P n tp) (h4 : P.1 (B + 59) 4 = nI f) (h5 : P.1 (B + 59) 5 = nI p) (h8 : P.1 (B + 59) 8 = nI v) (hf : f ≤ p) (hp : p < n) (hb : 97 ≤ tp p ∧ tp p ≤ 122) (h6 : p - f < 6) (hv : v < 2 ^ 25) : f_X8_go_92 (m + 1) (B + 59) P = f_X8_go_92 m (B + 59) (sI (sI P (B + 59) 8 (nI (32 * v + (tp p - 96)))) (B + 59) 5 (nI (p + 1))) := by
  have hD : RfD B P.2.2 := h.1
  have n7 := h.2.2.1
  have b := g_byte h (k := p) (by omega)
  rw [if_pos hp] at b
  have w := wi_az (v := tp p) (by omega) P
  rw [if_pos hb] at w
  have q : (nI 6 ≤ nI p - nI f) = False := by
    rw [pk_sub hf, nI_leI (by omega) (by omega)]
    exact eq_false (by omega)
  have a : nI (32 * v + tp p) - nI 96 = nI (32 * v + (tp p - 96)) := by
    rw [pk_sub (by omega), show 32 * v + tp p - 96 = 32 * v + (tp p - 96) by omega]
  have h5b : (sI P (B + 59) 8 (nI (32 * v + (tp p - 96)))).1 (B + 59) 5 = nI p := by rw [sI_oth (by omega)]; exact h5
  simp (disch := omega) only [f_X8_go_92, ↓w, reduceIte, ↓reduceIte, ↓ck_i, ↓nm_s, ↓bR_i, ↓bd_i, Option.isSome_some, Option.getD_some, gK, gR, gN, gIs, inb_nI, and_self, nI_clamp, fa_lit, pk_mul, nI_add, n10, n1z, n00, eq_self, not_true_eq_false, not_false_eq_true, hD.a, h4, h5, h8, b, q, a, h5b, sI_r]
theorem g_w_many (h : GT B P n tp) (h4 : P.1 (B + 59) 4 = nI f) (h5 : P.1 (B + 59) 5 = nI p) (hf : f ≤ p) (hp : p < n) (hb : 97 ≤ tp p ∧ tp p ≤ 122) (h6 : 6 ≤ p - f) : f_X8_go_92 (m + 1) (B + 59) P = f_X8_go_92 m (B + 59) (sI (sI P (B + 59) 8 (-nI 1)) (B + 59) 5 (nI (p + 1))) := by
  have hD : RfD B P.2.2 := h.1
  have n7 := h.2.2.1
  have b := g_byte h (k := p) (by omega)
  rw [if_pos hp] at b
  have w := wi_az (v := tp p) (by omega) P
  rw [if_pos hb] at w
  have q : (nI 6 ≤ nI p - nI f) = True := by
    rw [pk_sub hf, nI_leI (by omega) (by omega)]
    exact eq_true (by omega)
  have h5b : (sI P (B + 59) 8 (-nI 1)).1 (B + 59) 5 = nI p := by rw [sI_oth (by omega)]; exact h5
  simp (disch := omega) only [f_X8_go_92, ↓w, reduceIte, ↓reduceIte, ↓ck_i, ↓nm_s, ↓bR_i, ↓bd_i, Option.isSome_some, Option.getD_some, gK, gR, gN, gIs, inb_nI, and_self, nI_clamp, fa_lit, pk_mul, nI_add, n10, n1z, n00, eq_self, not_true_eq_false, not_false_eq_true, hD.a, h4, h5, b, q, h5b, sI_r]
theorem g_w_out (h : GT B P n tp) (h5 : P.1 (B + 59) 5 = nI p) (hp : p ≤ n) (hb : p = n ∨ ¬ (97 ≤ tp p ∧ tp p ≤ 122)) : f_X8_go_92 (m + 1) (B + 59) P = some ((), sI P (B + 59) 6 (nI 1)) := by
  have hD : RfD B P.2.2 := h.1
  have n7 := h.2.2.1
  have b := g_byte h (k := p) (by omega)
  by_cases e : p < n
  · rw [if_pos e] at b
    have w := wi_az (v := tp p) (h.2.2.2 p e).2 P
    rw [if_neg (by omega)] at w
    simp (disch := omega) only [f_X8_go_92, ↓w, reduceIte, ↓reduceIte, ↓ck_i, ↓nm_s, ↓bR_i, ↓bd_i, Option.isSome_some, Option.getD_some, gK, gR, gN, gIs, inb_nI, and_self, nI_clamp, fa_lit, pk_mul, nI_add, n10, n1z, n00, eq_self, not_true_eq_false, not_false_eq_true, hD.a, h5, b]
  · rw [if_neg e] at b
    have w := wi_az1 P
    simp (disch := omega) only [f_X8_go_92, ↓w, reduceIte, ↓reduceIte, ↓ck_i, ↓nm_s, ↓bR_i, ↓bd_i, Option.isSome_some, Option.getD_some, gK, gR, gN, gIs, inb_nI, and_self, nI_clamp, fa_lit, pk_mul, nI_add, n10, n1z, n00, eq_self, not_true_eq_false, not_false_eq_true, hD.a, h5, b]
theorem g_n_in (h : GT B P n tp) (h4 : P.1 (B + 59) 4 = nI f) (h5 : P.1 (B + 59) 5 = nI p) (h8 : P.1 (B + 59) 7 = nI v) (hf : f ≤ p) (hp : p < n) (hb : 48 ≤ tp p ∧ tp p ≤ 57) (h6 : p - f < 5) (hv : v < 2 ^ 25) : f_X8_go_189 (m + 1) (B + 59) P = f_X8_go_189 m (B + 59) (sI (sI P (B + 59) 7 (nI (10 * v + (tp p - 48)))) (B + 59) 5 (nI (p + 1))) := by
  have hD : RfD B P.2.2 := h.1
  have n7 := h.2.2.1
  have b := g_byte h (k := p) (by omega)
  rw [if_pos hp] at b
  have w := wi_09 (v := tp p) (by omega) P
  rw [if_pos hb] at w
  have q : (nI 5 ≤ nI p - nI f) = False := by
    rw [pk_sub hf, nI_leI (by omega) (by omega)]
    exact eq_false (by omega)
  have a : nI (10 * v + tp p) - nI 48 = nI (10 * v + (tp p - 48)) := by
    rw [pk_sub (by omega), show 10 * v + tp p - 48 = 10 * v + (tp p - 48) by omega]
  have h5b : (sI P (B + 59) 7 (nI (10 * v + (tp p - 48)))).1 (B + 59) 5 = nI p := by rw [sI_oth (by omega)]; exact h5
  simp (disch := omega) only [f_X8_go_189, ↓w, reduceIte, ↓reduceIte, ↓ck_i, ↓nm_s, ↓bR_i, ↓bd_i, Option.isSome_some, Option.getD_some, gK, gR, gN, gIs, inb_nI, and_self, nI_clamp, fa_lit, pk_mul, nI_add, n10, n1z, n00, eq_self, not_true_eq_false, not_false_eq_true, hD.a, h4, h5, h8, b, q, a, h5b, sI_r]
theorem g_n_many (h : GT B P n tp) (h4 : P.1 (B + 59) 4 = nI f) (h5 : P.1 (B + 59) 5 = nI p) (hf : f ≤ p) (hp : p < n) (hb : 48 ≤ tp p ∧ tp p ≤ 57) (h6 : 5 ≤ p - f) : f_X8_go_189 (m + 1) (B + 59) P = f_X8_go_189 m (B + 59) (sI (sI P (B + 59) 7 (-nI 1)) (B + 59) 5 (nI (p + 1))) := by
  have hD : RfD B P.2.2 := h.1
  have n7 := h.2.2.1
  have b := g_byte h (k := p) (by omega)
  rw [if_pos hp] at b
  have w := wi_09 (v := tp p) (by omega) P
  rw [if_pos hb] at w
  have q : (nI 5 ≤ nI p - nI f) = True := by
    rw [pk_sub hf, nI_leI (by omega) (by omega)]
    exact eq_true (by omega)
  have h5b : (sI P (B + 59) 7 (-nI 1)).1 (B + 59) 5 = nI p := by rw [sI_oth (by omega)]; exact h5
  simp (disch := omega) only [f_X8_go_189, ↓w, reduceIte, ↓reduceIte, ↓ck_i, ↓nm_s, ↓bR_i, ↓bd_i, Option.isSome_some, Option.getD_some, gK, gR, gN, gIs, inb_nI, and_self, nI_clamp, fa_lit, pk_mul, nI_add, n10, n1z, n00, eq_self, not_true_eq_false, not_false_eq_true, hD.a, h4, h5, b, q, h5b, sI_r]
theorem g_n_out (h : GT B P n tp) (h5 : P.1 (B + 59) 5 = nI p) (hp : p ≤ n) (hb : p = n ∨ ¬ (48 ≤ tp p ∧ tp p ≤ 57)) : f_X8_go_189 (m + 1) (B + 59) P = some ((), sI P (B + 59) 6 (nI 2)) := by
  have hD : RfD B P.2.2 := h.1
  have n7 := h.2.2.1
  have b := g_byte h (k := p) (by omega)
  by_cases e : p < n
  · rw [if_pos e] at b
    have w := wi_09 (v := tp p) (h.2.2.2 p e).2 P
    rw [if_neg (by omega)] at w
    simp (disch := omega) only [f_X8_go_189, ↓w, reduceIte, ↓reduceIte, ↓ck_i, ↓nm_s, ↓bR_i, ↓bd_i, Option.isSome_some, Option.getD_some, gK, gR, gN, gIs, inb_nI, and_self, nI_clamp, fa_lit, pk_mul, nI_add, n10, n1z, n00, eq_self, not_true_eq_false, not_false_eq_true, hD.a, h5, b]
  · rw [if_neg e] at b
    have w := wi_091 P
    simp (disch := omega) only [f_X8_go_189, ↓w, reduceIte, ↓reduceIte, ↓ck_i, ↓nm_s, ↓bR_i, ↓bd_i, Option.isSome_some, Option.getD_some, gK, gR, gN, gIs, inb_nI, and_self, nI_clamp, fa_lit, pk_mul, nI_add, n10, n1z, n00, eq_self, not_true_eq_false, not_false_eq_true, hD.a, h5, b]
end TX3
