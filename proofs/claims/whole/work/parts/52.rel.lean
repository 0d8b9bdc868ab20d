/-! the one mathematical picture of both sides: T, what a text told (80 numbers, by the reference's places); S, what is so (1407 numbers, by the reference's places) -/
abbrev Im : Type := Nat → Nat → Int32
def prS (T S : Nat → Nat) (l y : Nat) : Nat := if S (1215 + 21 * l + y) = 0 then T (12 + 7 * l + 1) else S (1215 + 21 * l + y)
/-- par and prize of a bond that was drawn -/
def dsS (T S : Nat → Nat) (l k : Nat) : Nat := T (12 + 7 * l + 1) + (if S (720 + 60 * l + k) ≤ 9 then T (40 + 10 * l + S (720 + 60 * l + k)) else 0)
/-- what one bond adds to what a loan paid -/
def shS (T S : Nat → Nat) (l k w : Nat) : Nat := match w with
  | 0 => T (12 + 7 * l + 2) * (if S (60 * l + k) = 0 then S 1206 else S (480 + 60 * l + k))
  | 1 => if S (60 * l + k) = 2 then dsS T S l k else 0
  | 2 => if S (60 * l + k) = 3 then prS T S l (S (480 + 60 * l + k)) else 0
  | 3 => if S (60 * l + k) = 4 then dsS T S l k else 0
  | 4 => if S (60 * l + k) = 1 then dsS T S l k else 0
  | _ => if S (60 * l + k) = 3 then T (12 + 7 * l + 1) - prS T S l (S (480 + 60 * l + k)) else 0
/-- how many bonds of a loan are so -/
def ctS (T S : Nat → Nat) (l st : Nat) : Nat := fb_ct (fun k => decide (S (60 * l + k) = st)) (T (12 + 7 * l))
/-- what a text told is as it may be -/
def TW (T : Nat → Nat) : Prop := T 0 ≤ 4 ∧ T 1 ≤ 6 ∧ ∀ l, l < T 0 → 1 ≤ T (12 + 7 * l) ∧ T (12 + 7 * l) ≤ 60 ∧ 1 ≤ T (12 + 7 * l + 1) ∧ T (12 + 7 * l + 1) ≤ 999 ∧ T (12 + 7 * l + 2) ≤ 99 ∧ 1 ≤ T (12 + 7 * l + 3) ∧ T (12 + 7 * l + 3) ≤ 20 ∧ T (12 + 7 * l + 4) ≤ 2 ∧ T (12 + 7 * l + 5) ≤ 99999 ∧ 1 ≤ T (12 + 7 * l + 6) ∧ T (12 + 7 * l + 6) ≤ 20 ∧ ∀ r, r < 10 → T (40 + 10 * l + r) ≤ 9999
/-- what is so is as it may be, behind c calls -/
def SW (T S : Nat → Nat) (c : Nat) : Prop := S 1206 ≤ 60 ∧ (∀ h, h < T 1 → S (1200 + h) ≤ 1000000000) ∧
  (∀ l, l < T 0 → 1 ≤ S (1207 + l) ∧ S (1207 + l) ≤ 2147483646 ∧ S (1211 + l) ≤ 99999 * c) ∧
  (∀ l, l < T 0 → ∀ y, 1 ≤ y → y ≤ T (12 + 7 * l + 3) → S (1215 + 21 * l + y) ≤ 999 ∧ (y ≤ S 1206 → 1 ≤ S (1299 + 21 * l + y) ∧ S (1299 + 21 * l + y) ≤ 2147483646)) ∧
  (∀ l, l < T 0 → ∀ k, k < T (12 + 7 * l) → S (60 * l + k) ≤ 4 ∧ S (240 + 60 * l + k) ≤ T 1 ∧ (S (60 * l + k) = 0 ↔ S (480 + 60 * l + k) = 0) ∧ S (480 + 60 * l + k) ≤ S 1206 ∧ S (480 + 60 * l + k) ≤ T (12 + 7 * l + 3) ∧ (S (60 * l + k) = 0 → S (720 + 60 * l + k) = 0) ∧ (S (60 * l + k) ≠ 0 → 1 ≤ S (720 + 60 * l + k) ∧ S (720 + 60 * l + k) ≤ 60) ∧ (T (12 + 7 * l + 3) ≤ S 1206 → S (60 * l + k) ≠ 0) ∧ (S (60 * l + k) = 3 → prS T S l (S (480 + 60 * l + k)) ≤ T (12 + 7 * l + 1)) ∧ S (960 + 60 * l + k) = shS T S l k 0 + shS T S l k 1 + shS T S l k 2) ∧
  (∀ l, l < T 0 → ∀ w, w < 6 → w ≠ 4 → S (1383 + 6 * l + w) = fb_sm (fun k => shS T S l k w) (T (12 + 7 * l))) ∧
  (∀ l, l < T 0 → T (12 + 7 * l + 4) = 0 → S 1206 < T (12 + 7 * l + 3) → ctS T S l 0 + T (12 + 7 * l) * S 1206 / T (12 + 7 * l + 3) = T (12 + 7 * l))
/-- the component's terms at t tell T -/
def CT (I : Im) (t : Nat) (T : Nat → Nat) : Prop := I t 0 = nI (T 0) ∧ I t 1 = nI (T 1) ∧
  (∀ l, l < T 0 → I (t + 2) l = nI (T (12 + 7 * l)) ∧ I (t + 3) l = nI (T (12 + 7 * l + 1)) ∧ I (t + 4) l = nI (T (12 + 7 * l + 2)) ∧ I (t + 5) l = nI (T (12 + 7 * l + 3)) ∧ I (t + 6) l = nI (T (12 + 7 * l + 4)) ∧ I (t + 7) l = nI (T (12 + 7 * l + 5)) ∧ I (t + 8) l = nI (T (12 + 7 * l + 6))) ∧
  ∀ l, l < T 0 → ∀ r, 1 ≤ r → r ≤ 9 → I (t + 12) (10 * l + r) = nI (T (40 + 10 * l + r))
/-- the component's state at a is S -/
def CS (I : Im) (a : Nat) (T S : Nat → Nat) : Prop := I a 0 = nI (S 1206) ∧ (∀ h, h < T 1 → I (a + 1) h = nI (S (1200 + h))) ∧
  (∀ l, l < T 0 → I (a + 2) l = nI (S (1207 + l)) ∧ I (a + 3) l = nI (S (1211 + l))) ∧
  (∀ l, l < T 0 → ∀ y, 1 ≤ y → y ≤ T (12 + 7 * l + 3) → I (a + 4) (21 * l + y) = nI (prS T S l y) ∧ I (a + 5) (21 * l + y) = nI (S (1299 + 21 * l + y))) ∧
  ∀ l, l < T 0 → ∀ k, k < T (12 + 7 * l) → I (a + 6) (60 * l + k) = nI (S (60 * l + k)) ∧ I (a + 7) (60 * l + k) = nI (S (240 + 60 * l + k)) - 1 ∧ I (a + 8) (60 * l + k) = nI (S (480 + 60 * l + k)) ∧ I (a + 9) (60 * l + k) = nI (S (720 + 60 * l + k))
/-- a row of the reference's numbers is these -/
def RW (n : Nat) (f : Nat → Int32) (S : Nat → Nat) : Prop := ∀ k, k < n → f k = nI (S k)
/-- all that the component's questions read -/
def CQ (B t : Nat) (M : Mm) (T S : Nat → Nat) (c : Nat) : Prop := CmA B M.2.2 ∧ M.2.2.1 B 0 = some t ∧ TmA t M.2.2 ∧ StA (B + 15) M.2.2 ∧ TW T ∧ CT M.1 t T ∧ CS M.1 (B + 15) T S ∧ SW T S c ∧ c ≤ 600
/-- all that the reference's questions read -/
def RQ (B : Nat) (M : Mm) (T S : Nat → Nat) (c : Nat) : Prop := RfA B M.2.2 ∧ RW 80 (M.1 (B + 61)) T ∧ RW 1407 (M.1 (B + 63)) S ∧ TW T ∧ SW T S c ∧ c ≤ 600
theorem n10 : (nI 1 = nI 0) = False := by decide
theorem n1z : ((1 : Nat) = 0) = False := by decide
theorem n00 : (nI 0 = nI 0) = True := by decide
theorem sI_ne {M : Mm} {a j b : Nat} {v : Int32} (h : b ≠ a) : (sI M a j v).1 b = M.1 b := by
  funext i
  show (if b = a ∧ i = j then v else M.1 b i) = M.1 b i
  rw [if_neg (fun q => h q.1)]
theorem RQ.th {B : Nat} {M : Mm} {T S : Nat → Nat} {c j : Nat} {v : Int32} (h : RQ B M T S c) : RQ B (sI M (B + 59) j v) T S c := by
  obtain ⟨h1, h2, h3, h4⟩ := h
  refine ⟨h1, ?_, ?_, h4⟩
  · rw [sI_ne (by omega)]; exact h2
  · rw [sI_ne (by omega)]; exact h3
/-- a number is below, above, or one of a row of places -/
theorem ix0 (x : Int32) {n : Nat} (hn : n < 2 ^ 31) : x < nI 0 ∨ (¬ x < nI 0 ∧ nI n ≤ x) ∨ ∃ j, j < n ∧ x = nI j := by
  by_cases h0 : x < nI 0
  · exact Or.inl h0
  · rcases pk_ix x hn with h | h | h
    · exact absurd h h0
    · exact Or.inr (Or.inl ⟨h0, h⟩)
    · exact Or.inr (Or.inr h)
theorem ix1 (x : Int32) {n : Nat} (hn : n < 2 ^ 31 - 1) : x < nI 1 ∨ (¬ x < nI 1 ∧ nI n < x) ∨ ∃ j, j < n ∧ x = nI (j + 1) := by
  rcases ix0 x (n := n + 1) (by omega) with h | ⟨h0, h⟩ | ⟨j, hj, rfl⟩
  · refine Or.inl ?_
    rw [fa_lt] at h ⊢
    have h1 : (nI 0).toInt = 0 := by decide
    have h2 : (nI 1).toInt = 1 := by decide
    omega
  · refine Or.inr (Or.inl ⟨?_, ?_⟩)
    · rw [fa_lt] at h0 ⊢
      rw [fa_le, nI_toInt (by omega)] at h
      have h2 : (nI 1).toInt = 1 := by decide
      omega
    · rw [fa_lt, nI_toInt (by omega)]
      rw [fa_le, nI_toInt (by omega)] at h
      omega
  · by_cases h : j = 0
    · subst h; exact Or.inl (by decide)
    · exact Or.inr (Or.inr ⟨j - 1, by omega, by rw [Nat.sub_add_cancel (by omega)]⟩)
theorem wi (x : Int32) {lo : Nat} (hlo : lo < 2 ^ 31) (hi : Int32) (M : Mm) : f_X8_within x.toInt64 (lN lo) hi.toInt64 M = some (if x < nI lo then nI 0 else if hi < x then nI 0 else nI 1, M) := by
  unfold f_X8_within
  rw [← nI_l hlo]
  simp only [fa_wide_lt]
  by_cases h : x < nI lo
  · rw [if_pos h, if_pos h]; rfl
  · rw [if_neg h, if_neg h]
    by_cases h2 : hi < x
    · rw [if_pos h2, if_pos h2]; rfl
    · rw [if_neg h2, if_neg h2]; rfl
theorem wiN (x : Int32) {lo hi : Nat} (hlo : lo < 2 ^ 31) (hhi : hi < 2 ^ 31) (M : Mm) : f_X8_within x.toInt64 (lN lo) (lN hi) M = some (if x < nI lo then nI 0 else if nI hi < x then nI 0 else nI 1, M) := by
  rw [← nI_l hhi]; exact wi x hlo (nI hi) M
