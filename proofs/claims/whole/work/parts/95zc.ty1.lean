/-! text: a pure reader, which both sides follow -/
abbrev Td : Type := Nat → Nat
abbrev Ou : Type := Sum Nat (Td × Td × Nat)
def upN (T : Td) (q x : Nat) : Td := fun k => if k = q then x else T k
def nxT (n : Nat) (tp : Td) (f : Nat) : Nat := skB tp (n - tkE n tp f) (tkE n tp f)
def lnT (n : Nat) (tp : Td) (f : Nat) : Nat := tkE n tp f - f
/-- a word's number, 0 where none stands, or one too long for a name -/
def wdT (n : Nat) (tp : Td) (f : Nat) : Nat := if tkK n tp f = 1 ∧ lnT n tp f ≤ 6 then wvB 32 96 tp f (lnT n tp f) else 0
def nvT (n : Nat) (tp : Td) (f : Nat) : Nat := wvB 10 48 tp f (lnT n tp f)
abbrev inN (n : Nat) (tp : Td) (f lo hi : Nat) : Prop := lnT n tp f ≤ 5 ∧ lo ≤ nvT n tp f ∧ nvT n tp f ≤ hi
def owL : List Nat := [408622, 2603155, 16434, 117096942, 26379859, 186542, 5572, 632267, 12632677, 284561586, 99944, 8892563, 17377093, 17376357]
abbrev ownN (x : Nat) : Prop := x = 408622 ∨ x = 2603155 ∨ x = 16434 ∨ x = 117096942 ∨ x = 26379859 ∨ x = 186542 ∨ x = 5572 ∨ x = 632267 ∨ x = 12632677 ∨ x = 284561586 ∨ x = 99944 ∨ x = 8892563 ∨ x = 17377093 ∨ x = 17376357
abbrev isNm (n : Nat) (tp : Td) (f : Nat) : Prop := wdT n tp f ≠ 0 ∧ ¬ ownN (wdT n tp f)
/-- a number that a name may have -/
def nmO (x : Nat) : Prop := cvN 6 (vcN 6 x) = x ∧ x < 2 ^ 30 ∧ vcN 6 x < 2 ^ 30 ∧ 0 < x
/-- which of cnt names, behind base, is x; cnt: none -/
def fnN (T : Td) (base cnt x : Nat) : Nat := fa_first (fun k => decide (T (base + k) = x)) cnt
section TY1
variable {n f p lo hi x y i q : Nat} {tp T : Td}
theorem upN_s : upN T q x q = x := if_pos rfl
theorem upN_o (h : i ≠ q) : upN T q x i = T i := if_neg h
theorem tk_n (hf : f ≤ n) : f ≤ tkE n tp f ∧ tkE n tp f ≤ n ∨ tkK n tp f = 4 := by
  have a := rnB_le (lo := 97) (hi := 122) (tp := tp) (d := n - f) (k := f)
  have b := rnB_le (lo := 48) (hi := 57) (tp := tp) (d := n - f) (k := f)
  by_cases e : f = n
  · left
    have hK : tkK n tp f = 0 := by unfold tkK; rw [if_pos (by omega)]
    unfold tkE; rw [if_pos hK]; omega
  · left
    unfold tkE
    (repeat' split) <;> omega
theorem tk_le (hf : f ≤ n) : f ≤ tkE n tp f ∧ tkE n tp f ≤ n := by
  have a := rnB_le (lo := 97) (hi := 122) (tp := tp) (d := n - f) (k := f)
  have b := rnB_le (lo := 48) (hi := 57) (tp := tp) (d := n - f) (k := f)
  by_cases e : f = n
  · have hK : tkK n tp f = 0 := by unfold tkK; rw [if_pos (by omega)]
    unfold tkE; rw [if_pos hK]; omega
  · unfold tkE
    (repeat' split) <;> omega
theorem tk_0 : tkK n tp f = 0 ↔ n ≤ f := by
  unfold tkK
  constructor
  · intro h
    by_cases e : n ≤ f
    · exact e
    · rw [if_neg e] at h
      (repeat' split at h) <;> omega
  · intro h; rw [if_pos h]
theorem tk_lt (h : tkK n tp f ≠ 0) : f < tkE n tp f := by
  have hn : ¬ n ≤ f := fun q => h (tk_0.mpr q)
  obtain ⟨d, hd⟩ : ∃ d, n - f = d + 1 := ⟨n - f - 1, by omega⟩
  have a := rnB_le (lo := 97) (hi := 122) (tp := tp) (d := d) (k := f + 1)
  have b := rnB_le (lo := 48) (hi := 57) (tp := tp) (d := d) (k := f + 1)
  unfold tkE
  rw [if_neg h, hd]
  by_cases c1 : tkK n tp f = 1
  · rw [if_pos c1]
    have e : 97 ≤ tp f ∧ tp f ≤ 122 := by
      unfold tkK at c1
      rw [if_neg hn] at c1
      split at c1
      · assumption
      · (repeat' split at c1) <;> omega
    rw [show rnB 97 122 tp (d + 1) f = rnB 97 122 tp d (f + 1) from if_pos e]; omega
  · rw [if_neg c1]
    by_cases c2 : tkK n tp f = 2
    · rw [if_pos c2]
      have e : 48 ≤ tp f ∧ tp f ≤ 57 := by
        unfold tkK at c2
        rw [if_neg hn] at c2
        split at c2
        · omega
        · split at c2
          · assumption
          · (repeat' split at c2) <;> omega
      rw [show rnB 48 57 tp (d + 1) f = rnB 48 57 tp d (f + 1) from if_pos e]; omega
    · rw [if_neg c2]; omega
theorem nx_le (hf : f ≤ n) : tkE n tp f ≤ nxT n tp f ∧ nxT n tp f ≤ n := by
  have a := tk_le (tp := tp) hf
  have b := skB_le (tp := tp) (d := n - tkE n tp f) (k := tkE n tp f)
  unfold nxT; omega
theorem nx_lt (hf : f ≤ n) (h : tkK n tp f ≠ 0) : f < nxT n tp f := by
  have a := nx_le (tp := tp) hf
  have b := tk_lt h
  omega
theorem tk_az (h : tkK n tp f = 1) : ∀ q, q < lnT n tp f → 97 ≤ tp (f + q) ∧ tp (f + q) ≤ 122 := by
  intro q hq
  have e : tkE n tp f = rnB 97 122 tp (n - f) f := by unfold tkE; rw [h, if_neg (by decide), if_pos rfl]
  unfold lnT at hq
  rw [e] at hq
  exact rnB_in (d := n - f) (k := f) (by omega) (by omega)
theorem tk_09 (h : tkK n tp f = 2) : ∀ q, q < lnT n tp f → 48 ≤ tp (f + q) ∧ tp (f + q) ≤ 57 := by
  intro q hq
  have e : tkE n tp f = rnB 48 57 tp (n - f) f := by unfold tkE; rw [h, if_neg (by decide), if_neg (by decide), if_pos rfl]
  unfold lnT at hq
  rw [e] at hq
  exact rnB_in (d := n - f) (k := f) (by omega) (by omega)
theorem ln_pos (h : tkK n tp f ≠ 0) : 0 < lnT n tp f := by
  have := tk_lt h
  unfold lnT; omega
theorem wd_1 (h : wdT n tp f ≠ 0) : tkK n tp f = 1 ∧ lnT n tp f ≤ 6 := by
  unfold wdT at h
  by_cases e : tkK n tp f = 1 ∧ lnT n tp f ≤ 6
  · exact e
  · rw [if_neg e] at h; exact absurd rfl h
theorem wd_e (h : tkK n tp f = 1 ∧ lnT n tp f ≤ 6) : wdT n tp f = wvB 32 96 tp f (lnT n tp f) := if_pos h
theorem wd_pos (h : tkK n tp f = 1 ∧ lnT n tp f ≤ 6) : 0 < wdT n tp f := by
  rw [wd_e h]
  have a := ln_pos (n := n) (tp := tp) (f := f) (by omega)
  have b := tk_az h.1 (lnT n tp f - 1) (by omega)
  obtain ⟨k, hk⟩ : ∃ k, lnT n tp f = k + 1 := ⟨lnT n tp f - 1, by omega⟩
  rw [hk] at b ⊢
  show 0 < 32 * wvB 32 96 tp f k + (tp (f + k) - 96)
  rw [Nat.add_sub_cancel] at b
  omega
theorem wd_nm (h : wdT n tp f ≠ 0) : nmO (wdT n tp f) := by
  have e := wd_1 h
  have az := tk_az e.1
  have p := wd_pos e
  rw [wd_e e] at p ⊢
  have a := wvB_32 (tp := tp) (f := f) (lnT n tp f) az
  have b := wvB_27 (tp := tp) (f := f) (lnT n tp f) az
  have c1 : 32 ^ lnT n tp f ≤ 32 ^ 6 := Nat.pow_le_pow_right (by omega) e.2
  have c2 : 27 ^ lnT n tp f ≤ 27 ^ 6 := Nat.pow_le_pow_right (by omega) e.2
  have d1 : 32 ^ 6 = 2 ^ 30 := by decide
  have d2 : 27 ^ 6 ≤ 2 ^ 30 := by decide
  refine ⟨?_, by omega, ?_, p⟩
  · rw [vcN_w _ 6 e.2 az, cvN_w _ 6 e.2 az]
  · rw [vcN_w _ 6 e.2 az]; omega
theorem nm_inj (hx : nmO x) (hy : nmO y) : nI (vcN 6 x) = nI (vcN 6 y) ↔ x = y := by
  rw [nI_eq (by have := hx.2.2.1; omega) (by have := hy.2.2.1; omega)]
  constructor
  · intro h
    rw [← hx.1, ← hy.1, h]
  · intro h; rw [h]
theorem wd_30 : wdT n tp f < 2 ^ 30 := by
  by_cases h : wdT n tp f = 0
  · rw [h]; decide
  · exact (wd_nm h).2.1
theorem nv_lt (h : tkK n tp f = 2) (hl : lnT n tp f ≤ 5) : nvT n tp f < 100000 := by
  have a := wvB_10 (tp := tp) (f := f) (lnT n tp f) (tk_09 h)
  have c1 : 10 ^ lnT n tp f ≤ 10 ^ 5 := Nat.pow_le_pow_right (by omega) hl
  unfold nvT
  omega
theorem fn_le : fnN T p n x ≤ n := fa_first_le _ _
theorem fn_no {k : Nat} (h : k < fnN T p n x) : T (p + k) ≠ x := by
  have := fa_first_no _ n k h
  exact of_decide_eq_false this
theorem fn_yes (h : fnN T p n x < n) : T (p + fnN T p n x) = x := of_decide_eq_true (fa_first_yes _ n h)
end TY1
