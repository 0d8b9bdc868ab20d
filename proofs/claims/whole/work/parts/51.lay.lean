/-! what the memory's shape is: references, kinds, lengths, the first free address -/
abbrev Shp : Type := (Nat → Nat → Option Nat) × (Nat → Nat) × (Nat → Nat) × Nat
def Ok {α : Type} (r : Option (α × Mm)) (Q : α → Mm → Prop) : Prop := ∃ x M', r = some (x, M') ∧ Q x M'
theorem Ok_ck {α : Type} {c : Prop} [Decidable c] {r : Option (α × Mm)} {Q : α → Mm → Prop} : Ok (ck c r) Q ↔ c ∧ Ok r Q := by
  unfold ck
  by_cases h : c
  · rw [if_pos h]; exact ⟨fun q => ⟨h, q⟩, fun q => q.2⟩
  · rw [if_neg h]; exact ⟨fun ⟨x, M, e, _⟩ => (by cases e), fun q => absurd q.1 h⟩
theorem Ok_nm {α β : Type} {x : β} {k : β → Option (α × Mm)} {Q : α → Mm → Prop} : Ok (nm x k) Q ↔ Ok (k x) Q := Iff.rfl
theorem Ok_bR {α : Type} {q : Nat} {k : Nat → Option (α × Mm)} {Q : α → Mm → Prop} : Ok (bR (some q) k) Q ↔ Ok (k q) Q := Iff.rfl
theorem Ok_bd {α β : Type} {r : Option (β × Mm)} {k : β → Mm → Option (α × Mm)} {Q : α → Mm → Prop} : Ok (bd r k) Q ↔ Ok r (fun x M => Ok (k x M) Q) := by
  constructor
  · intro ⟨x, M, e, q⟩
    obtain ⟨y, N, e1, e2⟩ := bd_some e
    exact ⟨y, N, e1, x, M, e2, q⟩
  · intro ⟨y, N, e1, x, M, e2, q⟩
    exact ⟨x, M, by rw [e1]; exact e2, q⟩
theorem Ok_some {α : Type} {x : α} {M : Mm} {Q : α → Mm → Prop} : Ok (some (x, M)) Q ↔ Q x M := ⟨fun ⟨y, N, e, q⟩ => by cases e; exact q, fun q => ⟨x, M, rfl, q⟩⟩
theorem Ok_ite {α : Type} {c : Prop} [Decidable c] {a b : Option (α × Mm)} {Q : α → Mm → Prop} : Ok (if c then a else b) Q ↔ (c → Ok a Q) ∧ (¬ c → Ok b Q) := by
  by_cases h : c
  · simp [h]
  · simp [h]
theorem Ok.mono {α : Type} {r : Option (α × Mm)} {Q Q' : α → Mm → Prop} (h : Ok r Q) (hq : ∀ x M, Q x M → Q' x M) : Ok r Q' := by
  obtain ⟨x, M, e, q⟩ := h
  exact ⟨x, M, e, hq x M q⟩
theorem bd_s {α β : Type} (x : α) (M : Mm) (k : α → Mm → Option β) : bd (some (x, M)) k = k x M := rfl
theorem bR_s {β : Type} (q : Nat) (k : Nat → Option β) : bR (some q) k = k q := rfl
theorem nm_s {α β : Type} (x : α) (k : α → Option β) : nm x k = k x := rfl
theorem ck_t {β : Type} {c : Prop} [Decidable c] {r : Option β} (h : c) : ck c r = r := if_pos h
theorem sI_sh (M : Mm) (a j : Nat) (v : Int32) : (sI M a j v).2.2 = M.2.2 := rfl
theorem sL_sh (M : Mm) (a j : Nat) (v : Int64) : (sL M a j v).2.2 = M.2.2 := rfl
theorem sC_sh (M : Mm) (a : Nat) (f : Nat → Int32) : (sC M a f).2.2 = M.2.2 := rfl
theorem inb_nI {j N : Nat} (h : j < N) (hN : N < 2147483648) : inb (nI j) N ↔ True := iff_true_intro (nI_in h (by omega))
theorem gIs (M : Mm) (a j : Nat) : gI M a j = M.1 a j := rfl
abbrev StA (a : Nat) (sh : Shp) : Prop := sh.2.1 (a) = 5 ∧ sh.1 (a) 1 = some (a + 1) ∧ sh.2.1 (a + 1) = 10 ∧ sh.2.2.1 (a + 1) = 6 ∧ sh.1 (a) 2 = some (a + 2) ∧ sh.2.1 (a + 2) = 10 ∧ sh.2.2.1 (a + 2) = 4 ∧ sh.1 (a) 3 = some (a + 3) ∧ sh.2.1 (a + 3) = 10 ∧ sh.2.2.1 (a + 3) = 4 ∧ sh.1 (a) 4 = some (a + 4) ∧ sh.2.1 (a + 4) = 10 ∧ sh.2.2.1 (a + 4) = 84 ∧ sh.1 (a) 5 = some (a + 5) ∧ sh.2.1 (a + 5) = 10 ∧ sh.2.2.1 (a + 5) = 84 ∧ sh.1 (a) 6 = some (a + 6) ∧ sh.2.1 (a + 6) = 10 ∧ sh.2.2.1 (a + 6) = 240 ∧ sh.1 (a) 7 = some (a + 7) ∧ sh.2.1 (a + 7) = 10 ∧ sh.2.2.1 (a + 7) = 240 ∧ sh.1 (a) 8 = some (a + 8) ∧ sh.2.1 (a + 8) = 10 ∧ sh.2.2.1 (a + 8) = 240 ∧ sh.1 (a) 9 = some (a + 9) ∧ sh.2.1 (a + 9) = 10 ∧ sh.2.2.1 (a + 9) = 240
abbrev TmA (t : Nat) (sh : Shp) : Prop := sh.2.1 (t) = 6 ∧ sh.1 (t) 5 = some (t + 1) ∧ sh.2.1 (t + 1) = 10 ∧ sh.2.2.1 (t + 1) = 4 ∧ sh.1 (t) 6 = some (t + 2) ∧ sh.2.1 (t + 2) = 10 ∧ sh.2.2.1 (t + 2) = 4 ∧ sh.1 (t) 7 = some (t + 3) ∧ sh.2.1 (t + 3) = 10 ∧ sh.2.2.1 (t + 3) = 4 ∧ sh.1 (t) 8 = some (t + 4) ∧ sh.2.1 (t + 4) = 10 ∧ sh.2.2.1 (t + 4) = 4 ∧ sh.1 (t) 9 = some (t + 5) ∧ sh.2.1 (t + 5) = 10 ∧ sh.2.2.1 (t + 5) = 4 ∧ sh.1 (t) 10 = some (t + 6) ∧ sh.2.1 (t + 6) = 10 ∧ sh.2.2.1 (t + 6) = 4 ∧ sh.1 (t) 11 = some (t + 7) ∧ sh.2.1 (t + 7) = 10 ∧ sh.2.2.1 (t + 7) = 4 ∧ sh.1 (t) 12 = some (t + 8) ∧ sh.2.1 (t + 8) = 10 ∧ sh.2.2.1 (t + 8) = 4 ∧ sh.1 (t) 13 = some (t + 9) ∧ sh.2.1 (t + 9) = 10 ∧ sh.2.2.1 (t + 9) = 6 ∧ sh.1 (t) 14 = some (t + 10) ∧ sh.2.1 (t + 10) = 10 ∧ sh.2.2.1 (t + 10) = 6 ∧ sh.1 (t) 15 = some (t + 11) ∧ sh.2.1 (t + 11) = 10 ∧ sh.2.2.1 (t + 11) = 240 ∧ sh.1 (t) 16 = some (t + 12) ∧ sh.2.1 (t + 12) = 10 ∧ sh.2.2.1 (t + 12) = 40 ∧ sh.1 (t) 17 = some (t + 13) ∧ sh.2.1 (t + 13) = 10 ∧ sh.2.2.1 (t + 13) = 84
abbrev CmA (B : Nat) (sh : Shp) : Prop := sh.2.1 (B) = 7 ∧ sh.1 (B) 1 = some (B + 15) ∧ sh.1 (B) 2 = some (B + 25) ∧ sh.1 (B) 4 = some (B + 26) ∧ sh.1 (B) 5 = some (B + 27) ∧ sh.1 (B) 7 = some (B + 28) ∧ sh.1 (B) 8 = some (B + 44) ∧ sh.1 (B) 9 = some (B + 53) ∧ sh.1 (B) 10 = some (B + 55) ∧ sh.1 (B) 11 = some (B + 56) ∧ sh.2.1 (B + 25) = 12 ∧ sh.2.2.1 (B + 25) = 12 ∧ sh.2.1 (B + 26) = 12 ∧ sh.2.2.1 (B + 26) = 2 ∧ sh.2.1 (B + 27) = 11 ∧ sh.2.2.1 (B + 27) = 2 ∧ sh.2.1 (B + 29) = 10 ∧ sh.2.2.1 (B + 29) = 700 ∧ sh.2.1 (B + 54) = 10 ∧ sh.2.2.1 (B + 54) = 60 ∧ sh.2.1 (B + 57) = 10 ∧ sh.2.2.1 (B + 57) = 6 ∧ sh.2.1 (B + 58) = 10 ∧ sh.2.2.1 (B + 58) = 6 ∧ sh.2.1 (B + 45) = 10 ∧ sh.2.2.1 (B + 45) = 21 ∧ sh.2.1 (B + 46) = 10 ∧ sh.2.2.1 (B + 46) = 10 ∧ sh.2.1 (B + 47) = 10 ∧ sh.2.2.1 (B + 47) = 21 ∧ sh.2.1 (B + 48) = 10 ∧ sh.2.2.1 (B + 48) = 21 ∧ sh.2.1 (B + 49) = 10 ∧ sh.2.2.1 (B + 49) = 21 ∧ sh.2.1 (B + 50) = 10 ∧ sh.2.2.1 (B + 50) = 21 ∧ sh.2.1 (B + 51) = 10 ∧ sh.2.2.1 (B + 51) = 21 ∧ sh.2.1 (B + 52) = 10 ∧ sh.2.2.1 (B + 52) = 21 ∧ sh.2.1 (B + 28) = 3 ∧ sh.1 (B + 28) 0 = some (B + 29) ∧ sh.2.1 (B + 44) = 4 ∧ sh.1 (B + 44) 6 = some (B + 45) ∧ sh.1 (B + 44) 7 = some (B + 46) ∧ sh.1 (B + 44) 11 = some (B + 47) ∧ sh.1 (B + 44) 12 = some (B + 48) ∧ sh.1 (B + 44) 13 = some (B + 49) ∧ sh.1 (B + 44) 14 = some (B + 50) ∧ sh.1 (B + 44) 15 = some (B + 51) ∧ sh.1 (B + 44) 16 = some (B + 52) ∧ sh.2.1 (B + 53) = 1 ∧ sh.1 (B + 53) 0 = some (B + 54) ∧ sh.2.1 (B + 55) = 0 ∧ sh.2.1 (B + 56) = 2 ∧ sh.1 (B + 56) 0 = some (B + 57) ∧ sh.1 (B + 56) 1 = some (B + 58)
abbrev RfA (B : Nat) (sh : Shp) : Prop := sh.2.1 (B + 59) = 8 ∧ sh.1 (B + 59) 1 = some (B + 60) ∧ sh.2.1 (B + 60) = 9 ∧ sh.2.2.1 (B + 60) = 700 ∧ sh.1 (B + 59) 11 = some (B + 61) ∧ sh.2.1 (B + 61) = 10 ∧ sh.2.2.1 (B + 61) = 80 ∧ sh.1 (B + 59) 12 = some (B + 62) ∧ sh.2.1 (B + 62) = 10 ∧ sh.2.2.1 (B + 62) = 80 ∧ sh.1 (B + 59) 17 = some (B + 63) ∧ sh.2.1 (B + 63) = 10 ∧ sh.2.2.1 (B + 63) = 1407 ∧ sh.1 (B + 59) 18 = some (B + 64) ∧ sh.2.1 (B + 64) = 10 ∧ sh.2.2.1 (B + 64) = 1407 ∧ sh.1 (B + 59) 24 = some (B + 65) ∧ sh.2.1 (B + 65) = 10 ∧ sh.2.2.1 (B + 65) = 16884 ∧ sh.1 (B + 59) 25 = some (B + 66) ∧ sh.2.1 (B + 66) = 11 ∧ sh.2.2.1 (B + 66) = 2 ∧ sh.1 (B + 59) 26 = some (B + 67) ∧ sh.2.1 (B + 67) = 10 ∧ sh.2.2.1 (B + 67) = 2814 ∧ sh.1 (B + 59) 27 = some (B + 68) ∧ sh.2.1 (B + 68) = 10 ∧ sh.2.2.1 (B + 68) = 126 ∧ sh.1 (B + 59) 31 = some (B + 69) ∧ sh.2.1 (B + 69) = 11 ∧ sh.2.2.1 (B + 69) = 61 ∧ sh.2.1 (B + 70) = 13 ∧ sh.2.2.1 (B + 70) = 1
