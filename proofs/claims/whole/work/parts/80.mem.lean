/-! reading behind writes; the invariant behind a deed -/
section MEMR
variable {M : Mm} {a j b i : Nat} {v : Int32}
theorem sI_hit : (sI M a j v).1 a j = v := by
  show (if a = a ∧ j = j then v else _) = v
  rw [if_pos ⟨rfl, rfl⟩]
theorem sI_oth (h : i ≠ j) : (sI M a j v).1 b i = M.1 b i := by
  show (if b = a ∧ i = j then v else M.1 b i) = _
  rw [if_neg (fun q => h q.2)]
theorem sI_l : (sI M a j v).2.1 = M.2.1 := rfl
theorem sI_r : (sI M a j v).2 = M.2 := rfl
theorem sL_1 {w : Int64} : (sL M a j w).1 = M.1 := rfl
theorem sL_hit {w : Int64} : (sL M a j w).2.1 a j = w := by
  show (if a = a ∧ j = j then w else _) = w
  rw [if_pos ⟨rfl, rfl⟩]
theorem sL_ne {w : Int64} (h : b ≠ a) : (sL M a j w).2.1 b = M.2.1 b := by
  funext i
  show (if b = a ∧ i = j then w else M.2.1 b i) = _
  rw [if_neg (fun q => h q.1)]
theorem sL_oth {w : Int64} (h : i ≠ j) : (sL M a j w).2.1 b i = M.2.1 b i := by
  show (if b = a ∧ i = j then w else M.2.1 b i) = _
  rw [if_neg (fun q => h q.2)]
theorem sC_hit {f : Nat → Int32} : (sC M a f).1 a = f := by
  funext i
  show (if a = a then f i else _) = _
  rw [if_pos rfl]
theorem sC_ne {f : Nat → Int32} (h : b ≠ a) : (sC M a f).1 b = M.1 b := by
  funext i
  show (if b = a then f i else _) = _
  rw [if_neg h]
theorem sC_r {f : Nat → Int32} : (sC M a f).2 = M.2 := rfl
end MEMR
/-- the class's cells are where they are, out of sight -/
def CmD (B : Nat) (sh : Shp) : Prop := CmA B sh
theorem CmD.a {B : Nat} {sh : Shp} (h : CmD B sh) : CmA B sh := h
def RfD (B : Nat) (sh : Shp) : Prop := RfA B sh
theorem RfD.a {B : Nat} {sh : Shp} (h : RfD B sh) : RfA B sh := h
def StD (a : Nat) (sh : Shp) : Prop := StA a sh
theorem StD.a {a : Nat} {sh : Shp} (h : StD a sh) : StA a sh := h
/-! control first: a condition, a name, a reference, a call are settled before what comes behind them -/
section CTRL
def mm0 : Mm := (fun _ _ => 0, fun _ _ => 0, fun _ _ => none, fun _ => 0, fun _ => 0, 0)
theorem ck_i {β : Type} (c : Prop) [Decidable c] (r : Option β) : ck c r = if c then r else none := rfl
theorem bR_i {β : Type} (r : Option Nat) (k : Nat → Option β) : bR r k = if r.isSome = true then k (r.getD 0) else none := by
  cases r with
  | none => rfl
  | some q => rfl
theorem bd_i {α β : Type} [Inhabited α] (r : Option (α × Mm)) (k : α → Mm → Option β) : bd r k = if r.isSome = true then k (r.getD (default, mm0)).1 (r.getD (default, mm0)).2 else none := by
  cases r with
  | none => rfl
  | some q => rfl
end CTRL
section NUMS
theorem j_max0 {a b : Nat} (ha : a < 2 ^ 30) (hb : b < 2 ^ 30) (M : Mm) : f_J9_max_7cf53 (nI 0) (nI a - nI b) M = some (nI (a - b), M) := by
  unfold f_J9_max_7cf53
  have h0 : (nI 0).toInt = 0 := by decide
  by_cases h : b < a
  · rw [pk_sub (by omega), if_pos]
    rw [nI_ltI (by omega) (by omega)]; omega
  · rw [if_neg]
    · rw [show a - b = 0 by omega]
    · rw [fa_lt, pk_sub_toInt ha hb, h0]; omega
theorem j_max {a b : Nat} (ha : a < 2 ^ 31) (hb : b < 2 ^ 31) (M : Mm) : f_J9_max_7cf53 (nI a) (nI b) M = some (nI (max a b), M) := by
  unfold f_J9_max_7cf53
  by_cases h : a < b
  · rw [if_pos ((nI_ltI (by omega) (by omega)).mpr h), Nat.max_eq_right (by omega)]
  · rw [if_neg (fun q => h ((nI_ltI (by omega) (by omega)).mp q)), Nat.max_eq_left (by omega)]
theorem j_min {a b : Nat} (ha : a < 2 ^ 31) (hb : b < 2 ^ 31) (M : Mm) : f_J9_min_7cf53 (nI a) (nI b) M = some (nI (min a b), M) := by
  unfold f_J9_min_7cf53
  by_cases h : b < a
  · rw [if_pos ((nI_ltI (by omega) (by omega)).mpr h), Nat.min_eq_right (by omega)]
  · rw [if_neg (fun q => h ((nI_ltI (by omega) (by omega)).mp q)), Nat.min_eq_left (by omega)]
theorem sub_le0 {a b : Nat} (ha : a < 2 ^ 30) (hb : b < 2 ^ 30) : (nI a - nI b ≤ nI 0) ↔ a ≤ b := by
  have h0 : (nI 0).toInt = 0 := by decide
  rw [fa_le, pk_sub_toInt ha hb, h0]
  omega
end NUMS
