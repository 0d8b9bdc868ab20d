/-! the one mathematical picture of both sides: T, what a text told (80 numbers, by the reference's places); S, what is so (1407 numbers, by the reference's places) -/
abbrev Im : Type := Nat → Nat → Int32
def prS (T S : Nat → Nat) (l y : Nat) : Nat := if S (1215 + 21 * l + y) = 0 then T (12 + 7 * l + 1) else S (1215 + 21 * l + y)
/-- par and prize of a bond that was drawn -/
def dsS (T S : Nat → Nat) (l k : Nat) : Nat := T (12 + 7 * l + 1) + (if S (720 + 60 * l + k) ≤ 9 then T (40 + 10 * l + S (720 + 60 * l + k)) else 0)
/-- what one bond adds to what a loan paid -/
def shS (T S : Nat → Nat) (l k w : Nat) : Nat := match w with
  | 0 => T (12 + 7 * l + 2) * (if S (60 * l + k) = 0 then S 1206 else S (480 + 60 * l + k))
  | 1 => if S (60 * l + k) = 2 then dsS T S l k else 0
  | 2 => if S (60 * l + k) = 3 then prS T S l (S (480 + 60 * l + k)) else 0
  | 3 => if S (60 * l + k) = 4 then dsS T S l k else 0
  | 4 => if S (60 * l + k) = 1 then dsS T S l k else 0
  | _ => if S (60 * l + k) = 3 then T (12 + 7 * l + 1) - prS T S l (S (480 + 60 * l + k)) else 0
/-- how many bonds of a loan are so -/
def ctS (T S : Nat → Nat) (l st : Nat) : Nat := fb_ct (fun k => decide (S (60 * l + k) = st)) (T (12 + 7 * l))
/-- what a text told is as it may be -/
def TW (T : Nat → Nat) : Prop := T 0 ≤ 4 ∧ T 1 ≤ 6 ∧ ∀ l, l < T 0 → 1 ≤ T (12 + 7 * l) ∧ T (12 + 7 * l) ≤ 60 ∧ 1 ≤ T (12 + 7 * l + 1) ∧ T (12 + 7 * l + 1) ≤ 999 ∧ T (12 + 7 * l + 2) ≤ 99 ∧ 1 ≤ T (12 + 7 * l + 3) ∧ T (12 + 7 * l + 3) ≤ 20 ∧ T (12 + 7 * l + 4) ≤ 2 ∧ T (12 + 7 * l + 5) ≤ 99999 ∧ 1 ≤ T (12 + 7 * l + 6) ∧ T (12 + 7 * l + 6) ≤ 20 ∧ ∀ r, r < 10 → T (40 + 10 * l + r) ≤ 9999
/-- what is so is as it may be, behind c calls -/
def SW (T S : Nat → Nat) (c : Nat) : Prop := S 1206 ≤ 60 ∧ (∀ h, h < T 1 → S (1200 + h) ≤ 1000000000) ∧
  (∀ l, l < T 0 → 1 ≤ S (1207 + l) ∧ S (1207 + l) ≤ 2147483646 ∧ S (1211 + l) ≤ 99999 * c) ∧
  (∀ l, l < T 0 → ∀ y, 1 ≤ y → y ≤ T (12 + 7 * l + 3) → S (1215 + 21 * l + y) ≤ 999 ∧ (y ≤ S 1206 → 1 ≤ S (1299 + 21 * l + y) ∧ S (1299 + 21 * l + y) ≤ 2147483646)) ∧
  (∀ l, l < T 0 → ∀ k, k < T (12 + 7 * l) → S (60 * l + k) ≤ 4 ∧ S (240 + 60 * l + k) ≤ T 1 ∧ (S (60 * l + k) = 0 ↔ S (480 + 60 * l + k) = 0) ∧ S (480 + 60 * l + k) ≤ S 1206 ∧ S (480 + 60 * l + k) ≤ T (12 + 7 * l + 3) ∧ (S (60 * l + k) = 0 → S (720 + 60 * l + k) = 0) ∧ (S (60 * l + k) ≠ 0 → 1 ≤ S (720 + 60 * l + k) ∧ S (720 + 60 * l + k) ≤ 60) ∧ (T (12 + 7 * l + 3) ≤ S 1206 → S (60 * l + k) ≠ 0) ∧ (S (60 * l + k) = 3 → prS T S l (S (480 + 60 * l + k)) ≤ T (12 + 7 * l + 1)) ∧ S (960 + 60 * l + k) = shS T S l k 0 + shS T S l k 1 + shS T S l k 2) ∧
  (∀ l, l < T 0 → ∀ w, w < 6 → w ≠ 4 → S (1383 + 6 * l + w) = fb_sm (fun k => shS T S l k w) (T (12 + 7 * l))) ∧
  (∀ l, l < T 0 → T (12 + 7 * l + 4) = 0 → S 1206 < T (12 + 7 * l + 3) → ctS T S l 0 + T (12 + 7 * l) * S 1206 / T (12 + 7 * l + 3) = T (12 + 7 * l))
/-- the component's terms at t tell T -/
def CT (I : Im) (t : Nat) (T : Nat → Nat) : Prop := I t 0 = nI (T 0) ∧ I t 1 = nI (T 1) ∧
  (∀ l, l < T 0 → I (t + 2) l = nI (T (12 + 7 * l)) ∧ I (t + 3) l = nI (T (12 + 7 * l + 1)) ∧ I (t + 4) l = nI (T (12 + 7 * l + 2)) ∧ I (t + 5) l = nI (T (12 + 7 * l + 3)) ∧ I (t + 6) l = nI (T (12 + 7 * l + 4)) ∧ I (t + 7) l = nI (T (12 + 7 * l + 5)) ∧ I (t + 8) l = nI (T (12 + 7 * l + 6))) ∧
  ∀ l, l < T 0 → ∀ r, 1 ≤ r → r ≤ 9 → I (t + 12) (10 * l + r) = nI (T (40 + 10 * l + r))
/-- the component's state at a is S -/
def CS (I : Im) (a : Nat) (T S : Nat → Nat) : Prop := I a 0 = nI (S 1206) ∧ (∀ h, h < T 1 → I (a + 1) h = nI (S (1200 + h))) ∧
  (∀ l, l < T 0 → I (a + 2) l = nI (S (1207 + l)) ∧ I (a + 3) l = nI (S (1211 + l))) ∧
  (∀ l, l < T 0 → ∀ y, 1 ≤ y → y ≤ T (12 + 7 * l + 3) → I (a + 4) (21 * l + y) = nI (prS T S l y) ∧ I (a + 5) (21 * l + y) = nI (S (1299 + 21 * l + y))) ∧
  ∀ l, l < T 0 → ∀ k, k < T (12 + 7 * l) → I (a + 6) (60 * l + k) = nI (S (60 * l + k)) ∧ I (a + 7) (60 * l + k) = nI (S (240 + 60 * l + k)) - 1 ∧ I (a + 8) (60 * l + k) = nI (S (480 + 60 * l + k)) ∧ I (a + 9) (60 * l + k) = nI (S (720 + 60 * l + k))
/-- a row of the reference's numbers is these -/
def RW (n : Nat) (f : Nat → Int32) (S : Nat → Nat) : Prop := ∀ k, k < n → f k = nI (S k)
