/-! constructors -/
def Zr (M : Mm) : Prop := ∀ b i, M.1 b i = 0
/-- a new array, kept in a slot of an object -/
def nw (M : Mm) (a j kd len : Nat) : Mm := sR (sN M kd len) a j (some (gT M))
theorem nw_run {β : Type} {M : Mm} {a j kd len k : Nat} {cont : Mm → Option β} (ha : a < gT M) (hk : gK M a = k) : (nm (gT M) fun q => nm (sN M kd len) fun M2 => ck (gK M2 a = k) (nm (sR M2 a j (some q)) fun M3 => cont M3)) = cont (nw M a j kd len) := by
  show ck (gK (sN M kd len) a = k) (cont (nw M a j kd len)) = _
  rw [ck_t]
  rw [gK_sN, if_neg (by omega)]
  exact hk
/-- an object at a with i arrays behind it -/
def Cc (a k : Nat) (sl kd ln : Nat → Nat) (M0 : Mm) (i : Nat) (N : Mm) : Prop := gT N = a + 1 + i ∧ gK N a = k ∧ (∀ x, x < i → gK N (a + 1 + x) = kd x ∧ gN N (a + 1 + x) = ln x ∧ gR N a (sl x) = some (a + 1 + x)) ∧ (∀ b, b < a → N.2.1 b = M0.2.1 b ∧ N.2.2.1 b = M0.2.2.1 b ∧ N.2.2.2.1 b = M0.2.2.2.1 b ∧ N.2.2.2.2.1 b = M0.2.2.2.2.1 b) ∧ (Zr M0 → Zr N)
section INIT
variable {a k i : Nat} {sl kd ln : Nat → Nat} {M0 N : Mm}
theorem Cc.new (h : Cc a k sl kd ln M0 i N) (hs : ∀ x, x < i → sl x ≠ sl i) : Cc a k sl kd ln M0 (i + 1) (nw N a (sl i) (kd i) (ln i)) := by
  obtain ⟨h1, h2, h3, h4, h5⟩ := h
  refine ⟨?_, ?_, ?_, ?_, ?_⟩
  · show gT N + 1 = _
    omega
  · show (if a = gT N then _ else gK N a) = k
    rw [if_neg (by omega)]; exact h2
  · intro x hx
    show (if a + 1 + x = gT N then kd i else gK N (a + 1 + x)) = kd x ∧ (if a + 1 + x = gT N then ln i else gN N (a + 1 + x)) = ln x ∧ (if a = a ∧ sl x = sl i then some (gT N) else if a = gT N then none else gR N a (sl x)) = some (a + 1 + x)
    by_cases hxi : x = i
    · subst hxi
      rw [if_pos (by omega), if_pos (by omega), if_pos ⟨rfl, rfl⟩, h1]
      exact ⟨rfl, rfl, rfl⟩
    · have hx2 : x < i := by omega
      rw [if_neg (by omega), if_neg (by omega), if_neg (fun q => hs x hx2 q.2), if_neg (by omega)]
      exact h3 x hx2
  · intro b hb
    have := h4 b hb
    refine ⟨?_, ?_, ?_, ?_⟩
    · rw [← this.1]; funext j; show (if b = gT N then _ else _) = _; rw [if_neg (by omega)]
    · rw [← this.2.1]; funext j
      show (if b = a ∧ j = sl i then _ else if b = gT N then _ else _) = _
      rw [if_neg (by omega), if_neg (by omega)]
    · rw [← this.2.2.1]; show (if b = gT N then _ else _) = _; rw [if_neg (by omega)]
    · rw [← this.2.2.2]; show (if b = gT N then _ else _) = _; rw [if_neg (by omega)]
  · intro z b j
    show (if b = gT N then 0 else N.1 b j) = 0
    split
    · rfl
    · exact h5 z b j
theorem Cc.int (h : Cc a k sl kd ln M0 i N) (j : Nat) : Cc a k sl kd ln M0 i (sI N a j 0) := by
  obtain ⟨h1, h2, h3, h4, h5⟩ := h
  refine ⟨h1, h2, h3, h4, fun z b q => ?_⟩
  show (if b = a ∧ q = j then 0 else N.1 b q) = 0
  split
  · rfl
  · exact h5 z b q
theorem Cc.long (h : Cc a k sl kd ln M0 i N) (j : Nat) (v : Int64) : Cc a k sl kd ln M0 i (sL N a j v) := by
  obtain ⟨h1, h2, h3, h4, h5⟩ := h
  refine ⟨h1, h2, h3, fun b hb => ⟨?_, (h4 b hb).2⟩, h5⟩
  rw [← (h4 b hb).1]
  funext q
  show (if b = a ∧ q = j then _ else _) = _
  rw [if_neg (by omega)]
theorem Cc.zero (hT : gT M0 = a + 1) (hK : gK M0 a = k) : Cc a k sl kd ln M0 0 M0 := ⟨by omega, hK, fun x hx => by omega, fun b hb => ⟨rfl, rfl, rfl, rfl⟩, fun z => z⟩
def sl6 (x : Nat) : Nat := ([5, 6, 7, 8, 9, 10, 11, 12, 13, 14, 15, 16, 17] : List Nat).getD x 0
def kd6 (x : Nat) : Nat := ([10, 10, 10, 10, 10, 10, 10, 10, 10, 10, 10, 10, 10] : List Nat).getD x 0
def ln6 (x : Nat) : Nat := ([4, 4, 4, 4, 4, 4, 4, 4, 6, 6, 240, 40, 84] : List Nat).getD x 0
theorem i_X6 (hT : gT M0 = a + 1) (hK : gK M0 a = 6) : ∃ N, f_X6_init a M0 = some ((), N) ∧ Cc a 6 sl6 kd6 ln6 M0 13 N := by
  have c := Cc.zero (k := 6) (sl := sl6) (kd := kd6) (ln := ln6) hT hK
  unfold f_X6_init
  rw [ck_t c.2.1, nm_s]
  replace c := c.int 0
  rw [ck_t c.2.1, nm_s]
  replace c := c.int 1
  rw [ck_t c.2.1, nm_s]
  replace c := c.int 2
  rw [ck_t c.2.1, nm_s]
  replace c := c.int 3
  rw [ck_t c.2.1, nm_s]
  replace c := c.int 4
  rw [nw_run (by have := c.1; omega) c.2.1]
  replace c : Cc a 6 sl6 kd6 ln6 M0 1 (nw _ a 5 10 4) := c.new (show ∀ x, x < 0 → sl6 x ≠ sl6 0 by decide)
  rw [nw_run (by have := c.1; omega) c.2.1]
  replace c : Cc a 6 sl6 kd6 ln6 M0 2 (nw _ a 6 10 4) := c.new (show ∀ x, x < 1 → sl6 x ≠ sl6 1 by decide)
  rw [nw_run (by have := c.1; omega) c.2.1]
  replace c : Cc a 6 sl6 kd6 ln6 M0 3 (nw _ a 7 10 4) := c.new (show ∀ x, x < 2 → sl6 x ≠ sl6 2 by decide)
  rw [nw_run (by have := c.1; omega) c.2.1]
  replace c : Cc a 6 sl6 kd6 ln6 M0 4 (nw _ a 8 10 4) := c.new (show ∀ x, x < 3 → sl6 x ≠ sl6 3 by decide)
  rw [nw_run (by have := c.1; omega) c.2.1]
  replace c : Cc a 6 sl6 kd6 ln6 M0 5 (nw _ a 9 10 4) := c.new (show ∀ x, x < 4 → sl6 x ≠ sl6 4 by decide)
  rw [nw_run (by have := c.1; omega) c.2.1]
  replace c : Cc a 6 sl6 kd6 ln6 M0 6 (nw _ a 10 10 4) := c.new (show ∀ x, x < 5 → sl6 x ≠ sl6 5 by decide)
  rw [nw_run (by have := c.1; omega) c.2.1]
  replace c : Cc a 6 sl6 kd6 ln6 M0 7 (nw _ a 11 10 4) := c.new (show ∀ x, x < 6 → sl6 x ≠ sl6 6 by decide)
  rw [nw_run (by have := c.1; omega) c.2.1]
  replace c : Cc a 6 sl6 kd6 ln6 M0 8 (nw _ a 12 10 4) := c.new (show ∀ x, x < 7 → sl6 x ≠ sl6 7 by decide)
  rw [nw_run (by have := c.1; omega) c.2.1]
  replace c : Cc a 6 sl6 kd6 ln6 M0 9 (nw _ a 13 10 6) := c.new (show ∀ x, x < 8 → sl6 x ≠ sl6 8 by decide)
  rw [nw_run (by have := c.1; omega) c.2.1]
  replace c : Cc a 6 sl6 kd6 ln6 M0 10 (nw _ a 14 10 6) := c.new (show ∀ x, x < 9 → sl6 x ≠ sl6 9 by decide)
  rw [nw_run (by have := c.1; omega) c.2.1]
  replace c : Cc a 6 sl6 kd6 ln6 M0 11 (nw _ a 15 10 240) := c.new (show ∀ x, x < 10 → sl6 x ≠ sl6 10 by decide)
  rw [nw_run (by have := c.1; omega) c.2.1]
  replace c : Cc a 6 sl6 kd6 ln6 M0 12 (nw _ a 16 10 40) := c.new (show ∀ x, x < 11 → sl6 x ≠ sl6 11 by decide)
  rw [nw_run (by have := c.1; omega) c.2.1]
  replace c : Cc a 6 sl6 kd6 ln6 M0 13 (nw _ a 17 10 84) := c.new (show ∀ x, x < 12 → sl6 x ≠ sl6 12 by decide)
  exact ⟨_, rfl, c⟩
def sl5 (x : Nat) : Nat := ([1, 2, 3, 4, 5, 6, 7, 8, 9] : List Nat).getD x 0
def kd5 (x : Nat) : Nat := ([10, 10, 10, 10, 10, 10, 10, 10, 10] : List Nat).getD x 0
def ln5 (x : Nat) : Nat := ([6, 4, 4, 84, 84, 240, 240, 240, 240] : List Nat).getD x 0
theorem i_X5 (hT : gT M0 = a + 1) (hK : gK M0 a = 5) : ∃ N, f_X5_init a M0 = some ((), N) ∧ Cc a 5 sl5 kd5 ln5 M0 9 N := by
  have c := Cc.zero (k := 5) (sl := sl5) (kd := kd5) (ln := ln5) hT hK
  unfold f_X5_init
  rw [ck_t c.2.1, nm_s]
  replace c := c.int 0
  rw [nw_run (by have := c.1; omega) c.2.1]
  replace c : Cc a 5 sl5 kd5 ln5 M0 1 (nw _ a 1 10 6) := c.new (show ∀ x, x < 0 → sl5 x ≠ sl5 0 by decide)
  rw [nw_run (by have := c.1; omega) c.2.1]
  replace c : Cc a 5 sl5 kd5 ln5 M0 2 (nw _ a 2 10 4) := c.new (show ∀ x, x < 1 → sl5 x ≠ sl5 1 by decide)
  rw [nw_run (by have := c.1; omega) c.2.1]
  replace c : Cc a 5 sl5 kd5 ln5 M0 3 (nw _ a 3 10 4) := c.new (show ∀ x, x < 2 → sl5 x ≠ sl5 2 by decide)
  rw [nw_run (by have := c.1; omega) c.2.1]
  replace c : Cc a 5 sl5 kd5 ln5 M0 4 (nw _ a 4 10 84) := c.new (show ∀ x, x < 3 → sl5 x ≠ sl5 3 by decide)
  rw [nw_run (by have := c.1; omega) c.2.1]
  replace c : Cc a 5 sl5 kd5 ln5 M0 5 (nw _ a 5 10 84) := c.new (show ∀ x, x < 4 → sl5 x ≠ sl5 4 by decide)
  rw [nw_run (by have := c.1; omega) c.2.1]
  replace c : Cc a 5 sl5 kd5 ln5 M0 6 (nw _ a 6 10 240) := c.new (show ∀ x, x < 5 → sl5 x ≠ sl5 5 by decide)
  rw [nw_run (by have := c.1; omega) c.2.1]
  replace c : Cc a 5 sl5 kd5 ln5 M0 7 (nw _ a 7 10 240) := c.new (show ∀ x, x < 6 → sl5 x ≠ sl5 6 by decide)
  rw [nw_run (by have := c.1; omega) c.2.1]
  replace c : Cc a 5 sl5 kd5 ln5 M0 8 (nw _ a 8 10 240) := c.new (show ∀ x, x < 7 → sl5 x ≠ sl5 7 by decide)
  rw [nw_run (by have := c.1; omega) c.2.1]
  replace c : Cc a 5 sl5 kd5 ln5 M0 9 (nw _ a 9 10 240) := c.new (show ∀ x, x < 8 → sl5 x ≠ sl5 8 by decide)
  exact ⟨_, rfl, c⟩
def sl4 (x : Nat) : Nat := ([6, 7, 11, 12, 13, 14, 15, 16] : List Nat).getD x 0
def kd4 (x : Nat) : Nat := ([10, 10, 10, 10, 10, 10, 10, 10] : List Nat).getD x 0
def ln4 (x : Nat) : Nat := ([21, 10, 21, 21, 21, 21, 21, 21] : List Nat).getD x 0
theorem i_X4 (hT : gT M0 = a + 1) (hK : gK M0 a = 4) : ∃ N, f_X4_init a M0 = some ((), N) ∧ Cc a 4 sl4 kd4 ln4 M0 8 N := by
  have c := Cc.zero (k := 4) (sl := sl4) (kd := kd4) (ln := ln4) hT hK
  unfold f_X4_init
  rw [ck_t c.2.1, nm_s]
  replace c := c.int 0
  rw [ck_t c.2.1, nm_s]
  replace c := c.int 1
  rw [ck_t c.2.1, nm_s]
  replace c := c.int 2
  rw [ck_t c.2.1, nm_s]
  replace c := c.int 3
  rw [ck_t c.2.1, nm_s]
  replace c := c.int 4
  rw [ck_t c.2.1, nm_s]
  replace c := c.int 5
  rw [nw_run (by have := c.1; omega) c.2.1]
  replace c : Cc a 4 sl4 kd4 ln4 M0 1 (nw _ a 6 10 21) := c.new (show ∀ x, x < 0 → sl4 x ≠ sl4 0 by decide)
  rw [nw_run (by have := c.1; omega) c.2.1]
  replace c : Cc a 4 sl4 kd4 ln4 M0 2 (nw _ a 7 10 10) := c.new (show ∀ x, x < 1 → sl4 x ≠ sl4 1 by decide)
  rw [ck_t c.2.1, nm_s]
  replace c := c.int 8
  rw [ck_t c.2.1, nm_s]
  replace c := c.int 9
  rw [ck_t c.2.1, nm_s]
  replace c := c.int 10
  rw [nw_run (by have := c.1; omega) c.2.1]
  replace c : Cc a 4 sl4 kd4 ln4 M0 3 (nw _ a 11 10 21) := c.new (show ∀ x, x < 2 → sl4 x ≠ sl4 2 by decide)
  rw [nw_run (by have := c.1; omega) c.2.1]
  replace c : Cc a 4 sl4 kd4 ln4 M0 4 (nw _ a 12 10 21) := c.new (show ∀ x, x < 3 → sl4 x ≠ sl4 3 by decide)
  rw [nw_run (by have := c.1; omega) c.2.1]
  replace c : Cc a 4 sl4 kd4 ln4 M0 5 (nw _ a 13 10 21) := c.new (show ∀ x, x < 4 → sl4 x ≠ sl4 4 by decide)
  rw [nw_run (by have := c.1; omega) c.2.1]
  replace c : Cc a 4 sl4 kd4 ln4 M0 6 (nw _ a 14 10 21) := c.new (show ∀ x, x < 5 → sl4 x ≠ sl4 5 by decide)
  rw [nw_run (by have := c.1; omega) c.2.1]
  replace c : Cc a 4 sl4 kd4 ln4 M0 7 (nw _ a 15 10 21) := c.new (show ∀ x, x < 6 → sl4 x ≠ sl4 6 by decide)
  rw [nw_run (by have := c.1; omega) c.2.1]
  replace c : Cc a 4 sl4 kd4 ln4 M0 8 (nw _ a 16 10 21) := c.new (show ∀ x, x < 7 → sl4 x ≠ sl4 7 by decide)
  exact ⟨_, rfl, c⟩
def sl1 (x : Nat) : Nat := ([0] : List Nat).getD x 0
def kd1 (x : Nat) : Nat := ([10] : List Nat).getD x 0
def ln1 (x : Nat) : Nat := ([60] : List Nat).getD x 0
theorem i_X1 (hT : gT M0 = a + 1) (hK : gK M0 a = 1) : ∃ N, f_X1_init a M0 = some ((), N) ∧ Cc a 1 sl1 kd1 ln1 M0 1 N := by
  have c := Cc.zero (k := 1) (sl := sl1) (kd := kd1) (ln := ln1) hT hK
  unfold f_X1_init
  rw [nw_run (by have := c.1; omega) c.2.1]
  replace c : Cc a 1 sl1 kd1 ln1 M0 1 (nw _ a 0 10 60) := c.new (show ∀ x, x < 0 → sl1 x ≠ sl1 0 by decide)
  rw [ck_t c.2.1, nm_s]
  replace c := c.int 1
  rw [ck_t c.2.1, nm_s]
  replace c := c.int 2
  exact ⟨_, rfl, c⟩
def sl2 (x : Nat) : Nat := ([0, 1] : List Nat).getD x 0
def kd2 (x : Nat) : Nat := ([10, 10] : List Nat).getD x 0
def ln2 (x : Nat) : Nat := ([6, 6] : List Nat).getD x 0
theorem i_X2 (hT : gT M0 = a + 1) (hK : gK M0 a = 2) : ∃ N, f_X2_init a M0 = some ((), N) ∧ Cc a 2 sl2 kd2 ln2 M0 2 N := by
  have c := Cc.zero (k := 2) (sl := sl2) (kd := kd2) (ln := ln2) hT hK
  unfold f_X2_init
  rw [nw_run (by have := c.1; omega) c.2.1]
  replace c : Cc a 2 sl2 kd2 ln2 M0 1 (nw _ a 0 10 6) := c.new (show ∀ x, x < 0 → sl2 x ≠ sl2 0 by decide)
  rw [nw_run (by have := c.1; omega) c.2.1]
  replace c : Cc a 2 sl2 kd2 ln2 M0 2 (nw _ a 1 10 6) := c.new (show ∀ x, x < 1 → sl2 x ≠ sl2 1 by decide)
  exact ⟨_, rfl, c⟩
def sl0 (x : Nat) : Nat := ([] : List Nat).getD x 0
def kd0 (x : Nat) : Nat := ([] : List Nat).getD x 0
def ln0 (x : Nat) : Nat := ([] : List Nat).getD x 0
theorem i_X0 (hT : gT M0 = a + 1) (hK : gK M0 a = 0) : ∃ N, f_X0_init a M0 = some ((), N) ∧ Cc a 0 sl0 kd0 ln0 M0 0 N := by
  have c := Cc.zero (k := 0) (sl := sl0) (kd := kd0) (ln := ln0) hT hK
  unfold f_X0_init
  rw [ck_t c.2.1, nm_s]
  replace c := c.long 0 0
  rw [ck_t c.2.1, nm_s]
  replace c := c.long 1 1
  exact ⟨_, rfl, c⟩
def sl8 (x : Nat) : Nat := ([1, 11, 12, 17, 18, 24, 25, 26, 27, 31] : List Nat).getD x 0
def kd8 (x : Nat) : Nat := ([9, 10, 10, 10, 10, 10, 11, 10, 10, 11] : List Nat).getD x 0
def ln8 (x : Nat) : Nat := ([700, 80, 80, 1407, 1407, 16884, 2, 2814, 126, 61] : List Nat).getD x 0
theorem i_X8 (hT : gT M0 = a + 1) (hK : gK M0 a = 8) : ∃ N, f_X8_init a M0 = some ((), N) ∧ Cc a 8 sl8 kd8 ln8 M0 10 N := by
  have c := Cc.zero (k := 8) (sl := sl8) (kd := kd8) (ln := ln8) hT hK
  unfold f_X8_init
  rw [nw_run (by have := c.1; omega) c.2.1]
  replace c : Cc a 8 sl8 kd8 ln8 M0 1 (nw _ a 1 9 700) := c.new (show ∀ x, x < 0 → sl8 x ≠ sl8 0 by decide)
  rw [nw_run (by have := c.1; omega) c.2.1]
  replace c : Cc a 8 sl8 kd8 ln8 M0 2 (nw _ a 11 10 80) := c.new (show ∀ x, x < 1 → sl8 x ≠ sl8 1 by decide)
  rw [nw_run (by have := c.1; omega) c.2.1]
  replace c : Cc a 8 sl8 kd8 ln8 M0 3 (nw _ a 12 10 80) := c.new (show ∀ x, x < 2 → sl8 x ≠ sl8 2 by decide)
  rw [nw_run (by have := c.1; omega) c.2.1]
  replace c : Cc a 8 sl8 kd8 ln8 M0 4 (nw _ a 17 10 1407) := c.new (show ∀ x, x < 3 → sl8 x ≠ sl8 3 by decide)
  rw [nw_run (by have := c.1; omega) c.2.1]
  replace c : Cc a 8 sl8 kd8 ln8 M0 5 (nw _ a 18 10 1407) := c.new (show ∀ x, x < 4 → sl8 x ≠ sl8 4 by decide)
  rw [nw_run (by have := c.1; omega) c.2.1]
  replace c : Cc a 8 sl8 kd8 ln8 M0 6 (nw _ a 24 10 16884) := c.new (show ∀ x, x < 5 → sl8 x ≠ sl8 5 by decide)
  rw [nw_run (by have := c.1; omega) c.2.1]
  replace c : Cc a 8 sl8 kd8 ln8 M0 7 (nw _ a 25 11 2) := c.new (show ∀ x, x < 6 → sl8 x ≠ sl8 6 by decide)
  rw [nw_run (by have := c.1; omega) c.2.1]
  replace c : Cc a 8 sl8 kd8 ln8 M0 8 (nw _ a 26 10 2814) := c.new (show ∀ x, x < 7 → sl8 x ≠ sl8 7 by decide)
  rw [nw_run (by have := c.1; omega) c.2.1]
  replace c : Cc a 8 sl8 kd8 ln8 M0 9 (nw _ a 27 10 126) := c.new (show ∀ x, x < 8 → sl8 x ≠ sl8 8 by decide)
  rw [ck_t c.2.1, nm_s]
  replace c := c.long 28 1
  rw [nw_run (by have := c.1; omega) c.2.1]
  replace c : Cc a 8 sl8 kd8 ln8 M0 10 (nw _ a 31 11 61) := c.new (show ∀ x, x < 9 → sl8 x ≠ sl8 9 by decide)
  exact ⟨_, rfl, c⟩
end INIT
