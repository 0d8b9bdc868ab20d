/-! weak forms: between the steps of a deed only sizes are known -/
def SB (T S : Nat → Nat) : Prop := S 1206 ≤ 60 ∧ (∀ h, h < T 1 → S (1200 + h) ≤ 1000000000) ∧ (∀ l, l < T 0 → S (1207 + l) ≤ 2147483646 ∧ S (1211 + l) ≤ 90000000) ∧ (∀ l, l < T 0 → ∀ y, 1 ≤ y → y ≤ T (12 + 7 * l + 3) → S (1215 + 21 * l + y) ≤ 999) ∧
  ∀ l, l < T 0 → ∀ k, k < T (12 + 7 * l) → S (60 * l + k) ≤ 4 ∧ S (240 + 60 * l + k) ≤ T 1 ∧ S (480 + 60 * l + k) ≤ 60 ∧ S (720 + 60 * l + k) ≤ 60
def CV (B t : Nat) (M : Mm) (T S : Nat → Nat) : Prop := CmA B M.2.2 ∧ M.2.2.1 B 0 = some t ∧ TmA t M.2.2 ∧ StA (B + 15) M.2.2 ∧ TW T ∧ CT M.1 t T ∧ CS M.1 (B + 15) T S ∧ SB T S
def RV (B : Nat) (M : Mm) (T S : Nat → Nat) : Prop := RfA B M.2.2 ∧ RW 80 (M.1 (B + 61)) T ∧ RW 1407 (M.1 (B + 63)) S ∧ TW T ∧ SB T S
/-- only the state that is now changed -/
def KS (B : Nat) (M N : Mm) : Prop := N.2 = M.2 ∧ ∀ a, a < B + 15 ∨ B + 25 ≤ a → N.1 a = M.1 a
def KQ (B : Nat) (M N : Mm) : Prop := N.2 = M.2 ∧ ∀ a, a ≠ B + 63 → N.1 a = M.1 a
theorem KS.rf {B : Nat} {M : Mm} : KS B M M := ⟨rfl, fun _ _ => rfl⟩
theorem KQ.rf {B : Nat} {M : Mm} : KQ B M M := ⟨rfl, fun _ _ => rfl⟩
theorem KS.tr {B : Nat} {M N P : Mm} (h : KS B M N) (g : KS B N P) : KS B M P := ⟨g.1.trans h.1, fun a ha => (g.2 a ha).trans (h.2 a ha)⟩
theorem KQ.tr {B : Nat} {M N P : Mm} (h : KQ B M N) (g : KQ B N P) : KQ B M P := ⟨g.1.trans h.1, fun a ha => (g.2 a ha).trans (h.2 a ha)⟩
section WEAK
variable {B t c l k y p : Nat} {T S S2 : Nat → Nat} {M N P : Mm} {x z u : Int32}
theorem SW.sb (hW : TW T) (h : SW T S c) (hc : c ≤ 600) : SB T S := by
  refine ⟨h.1, h.2.1, fun l hl => ?_, fun l hl y y1 y2 => (h.2.2.2.1 l hl y y1 y2).1, fun l hl k hk => ?_⟩
  · have := h.2.2.1 l hl
    have h2 : 99999 * c ≤ 99999 * 600 := Nat.mul_le_mul_left _ hc
    omega
  · have q := h.2.2.2.2.1 l hl k hk
    have hy := h.1
    refine ⟨q.1, q.2.1, Nat.le_trans q.2.2.2.1 hy, ?_⟩
    by_cases h0 : S (60 * l + k) = 0
    · have := q.2.2.2.2.2.1 h0; omega
    · exact (q.2.2.2.2.2.2.1 h0).2
theorem CQ.v (h : CQ B t M T S c) : CV B t M T S := ⟨h.1, h.2.1, h.2.2.1, h.2.2.2.1, h.2.2.2.2.1, h.2.2.2.2.2.1, h.2.2.2.2.2.2.1, h.2.2.2.2.2.2.2.1.sb h.2.2.2.2.1 h.2.2.2.2.2.2.2.2⟩
theorem RQ.v (h : RQ B M T S c) : RV B M T S := ⟨h.1, h.2.1, h.2.2.1, h.2.2.2.1, h.2.2.2.2.1.sb h.2.2.2.1 h.2.2.2.2.2⟩
theorem SB.up {j v : Nat} (hW : TW T) (h : SB T S) (hv : (j = 1206 → v ≤ 60) ∧ (1200 ≤ j → j < 1206 → v ≤ 1000000000) ∧ (1207 ≤ j → j < 1211 → v ≤ 2147483646) ∧ (1211 ≤ j → j < 1215 → v ≤ 90000000) ∧ (1215 ≤ j → j < 1299 → v ≤ 999) ∧ (j < 240 → v ≤ 4) ∧ (240 ≤ j → j < 480 → v ≤ T 1) ∧ (480 ≤ j → j < 960 → v ≤ 60)) : SB T (upS S j v) := by
  obtain ⟨v1, v2, v3, v4, v5, v6, v7, v8⟩ := hv
  obtain ⟨h1, h2, h3, h4, h5⟩ := h
  have w0 := hW.1
  have w1 := hW.2.1
  have up : ∀ q b, S q ≤ b → (q = j → v ≤ b) → upS S j v q ≤ b := fun q b hb hq => by
    unfold upS
    split
    · rename_i e; exact hq e
    · exact hb
  refine ⟨up _ _ h1 (fun e => v1 e.symm), fun h hh => up _ _ (h2 h hh) (fun e => v2 (by omega) (by omega)), fun l hl => ⟨up _ _ (h3 l hl).1 (fun e => v3 (by omega) (by omega)), up _ _ (h3 l hl).2 (fun e => v4 (by omega) (by omega))⟩, fun l hl y y1 y2 => ?_, fun l hl k hk => ?_⟩
  · have w := (hW.2.2 l hl).2.2.2.2.2.2.1
    exact up _ _ (h4 l hl y y1 y2) (fun e => v5 (by omega) (by omega))
  · have w := (hW.2.2 l hl).2.1
    have q := h5 l hl k hk
    exact ⟨up _ _ q.1 (fun e => v6 (by omega)), up _ _ q.2.1 (fun e => v7 (by omega) (by omega)), up _ _ q.2.2.1 (fun e => v8 (by omega) (by omega)), up _ _ q.2.2.2 (fun e => v8 (by omega) (by omega))⟩
theorem SB.congr (h : SB T S) (e : ∀ j, S2 j = S j) : SB T S2 := by
  have : S2 = S := funext e
  rw [this]; exact h
theorem RV.kp (h : RV B M T S) (hs : N.2.2 = M.2.2) (h1 : N.1 (B + 61) = M.1 (B + 61)) (h3 : N.1 (B + 63) = M.1 (B + 63)) : RV B N T S := by
  unfold RV
  rw [hs, h1, h3]
  exact h
theorem RV.th {j : Nat} {v : Int32} (h : RV B M T S) : RV B (sI M (B + 59) j v) T S := h.kp rfl (sI_ne (by omega)) (sI_ne (by omega))
theorem CV.kp (h : CV B t M T S) (ht : t + 14 ≤ B + 44) (hB : t ≠ B) (hs : N.2.2 = M.2.2) (hi : ∀ a, a < B + 44 → N.1 a = M.1 a) : CV B t N T S := by
  obtain ⟨h1, h2, h3, h4, h5, h6, h7, h8⟩ := h
  exact ⟨by rw [hs]; exact h1, by rw [hs]; exact h2, by rw [hs]; exact h3, by rw [hs]; exact h4, h5, h6.of (fun b b1 b2 => hi b (by omega)), h7.of (fun b b1 b2 => hi b (by omega)), h8⟩
/-- a write to the row of the reference's -/
theorem RV.s {j v : Nat} (h : RV B M T S) (hb : SB T (upS S j v)) : RV B (sI M (B + 63) j (nI v)) T (upS S j v) := ⟨h.1, by rw [sI_ne (by omega)]; exact h.2.1, h.2.2.1.s, h.2.2.2.1, hb⟩
theorem KQ.s {j : Nat} {v : Int32} : KQ B M (sI M (B + 63) j v) := ⟨rfl, fun a ha => sI_ne ha⟩
theorem KS.s {j i : Nat} {v : Int32} (hj : j ≤ 9) : KS B M (sI M (B + 15 + j) i v) := ⟨rfl, fun a ha => sI_ne (by omega)⟩

theorem CS.cash {a v : Nat} {q : Nat} (hh : q < T 1) (hW : TW T) (h : CS M.1 a T S) : CS (sI M (a + 1) q (nI v)).1 a T (upS S (1200 + q) v) := by
  have w0 := hW.1
  have w1 := hW.2.1
  refine h.up hW (upS_ne (by omega)) (by omega) (fun h' hh' => ?_) (fun l' hl' => ?_) (fun l' hl' y' y1' y2' => ?_) (fun l' hl' k' hk' => ?_)
  · by_cases e : h' = q
    · rw [if_pos ⟨rfl, e⟩, e, upS_eq]
    · rw [no_if (by omega), upS_ne (by omega)]
  · rw [no_if (by omega), no_if (by omega), upS_ne (by omega), upS_ne (by omega)]; exact ⟨rfl, rfl⟩
  · have w := (hW.2.2 l' hl').2.2.2.2.2.2.1
    rw [no_if (by omega), no_if (by omega), prS_cong (upS_ne (by omega)), upS_ne (by omega)]; exact ⟨rfl, rfl⟩
  · have w := (hW.2.2 l' hl').2.1
    rw [no_if (by omega), no_if (by omega), no_if (by omega), no_if (by omega), upS_ne (by omega), upS_ne (by omega), upS_ne (by omega), upS_ne (by omega)]; exact ⟨rfl, rfl, rfl, rfl⟩
theorem CV.cash {v : Nat} {q : Nat} (hh : q < T 1) (h : CV B t M T S) (hT : t + 14 ≤ B + 15 ∨ B + 25 ≤ t) (hb : SB T (upS S (1200 + q) v)) : CV B t (sI M (B + 15 + 1) q (nI v)) T (upS S (1200 + q) v) :=
  ⟨h.1, h.2.1, h.2.2.1, h.2.2.2.1, h.2.2.2.2.1, h.2.2.2.2.2.1.of (fun b b1 b2 => sI_ne (by omega)), CS.cash hh h.2.2.2.2.1 h.2.2.2.2.2.2.1, hb⟩
theorem CS.wheel {a v : Nat} (hl : l < T 0) (hW : TW T) (h : CS M.1 a T S) : CS (sI M (a + 2) l (nI v)).1 a T (upS S (1207 + l) v) := by
  have w0 := hW.1
  have w1 := hW.2.1
  refine h.up hW (upS_ne (by omega)) (by omega) (fun h' hh' => ?_) (fun l' hl' => ?_) (fun l' hl' y' y1' y2' => ?_) (fun l' hl' k' hk' => ?_)
  · rw [no_if (by omega), upS_ne (by omega)]
  · rw [no_if (c := 2 = 3 ∧ l' = l) (by omega), upS_ne (by omega) (k := 1211 + l')]
    by_cases e : l' = l
    · rw [if_pos ⟨rfl, e⟩, e, upS_eq]; exact ⟨rfl, rfl⟩
    · rw [no_if (by omega), upS_ne (by omega)]; exact ⟨rfl, rfl⟩
  · have w := (hW.2.2 l' hl').2.2.2.2.2.2.1
    rw [no_if (by omega), no_if (by omega), prS_cong (upS_ne (by omega)), upS_ne (by omega)]; exact ⟨rfl, rfl⟩
  · have w := (hW.2.2 l' hl').2.1
    rw [no_if (by omega), no_if (by omega), no_if (by omega), no_if (by omega), upS_ne (by omega), upS_ne (by omega), upS_ne (by omega), upS_ne (by omega)]; exact ⟨rfl, rfl, rfl, rfl⟩
theorem CV.wheel {v : Nat} (hl : l < T 0) (h : CV B t M T S) (hT : t + 14 ≤ B + 15 ∨ B + 25 ≤ t) (hb : SB T (upS S (1207 + l) v)) : CV B t (sI M (B + 15 + 2) l (nI v)) T (upS S (1207 + l) v) :=
  ⟨h.1, h.2.1, h.2.2.1, h.2.2.2.1, h.2.2.2.2.1, h.2.2.2.2.2.1.of (fun b b1 b2 => sI_ne (by omega)), CS.wheel hl h.2.2.2.2.1 h.2.2.2.2.2.2.1, hb⟩
theorem CS.fund {a v : Nat} (hl : l < T 0) (hW : TW T) (h : CS M.1 a T S) : CS (sI M (a + 3) l (nI v)).1 a T (upS S (1211 + l) v) := by
  have w0 := hW.1
  have w1 := hW.2.1
  refine h.up hW (upS_ne (by omega)) (by omega) (fun h' hh' => ?_) (fun l' hl' => ?_) (fun l' hl' y' y1' y2' => ?_) (fun l' hl' k' hk' => ?_)
  · rw [no_if (by omega), upS_ne (by omega)]
  · rw [no_if (c := 3 = 2 ∧ l' = l) (by omega), upS_ne (by omega) (k := 1207 + l')]
    by_cases e : l' = l
    · rw [if_pos ⟨rfl, e⟩, e, upS_eq]; exact ⟨rfl, rfl⟩
    · rw [no_if (by omega), upS_ne (by omega)]; exact ⟨rfl, rfl⟩
  · have w := (hW.2.2 l' hl').2.2.2.2.2.2.1
    rw [no_if (by omega), no_if (by omega), prS_cong (upS_ne (by omega)), upS_ne (by omega)]; exact ⟨rfl, rfl⟩
  · have w := (hW.2.2 l' hl').2.1
    rw [no_if (by omega), no_if (by omega), no_if (by omega), no_if (by omega), upS_ne (by omega), upS_ne (by omega), upS_ne (by omega), upS_ne (by omega)]; exact ⟨rfl, rfl, rfl, rfl⟩
theorem CV.fund {v : Nat} (hl : l < T 0) (h : CV B t M T S) (hT : t + 14 ≤ B + 15 ∨ B + 25 ≤ t) (hb : SB T (upS S (1211 + l) v)) : CV B t (sI M (B + 15 + 3) l (nI v)) T (upS S (1211 + l) v) :=
  ⟨h.1, h.2.1, h.2.2.1, h.2.2.2.1, h.2.2.2.2.1, h.2.2.2.2.2.1.of (fun b b1 b2 => sI_ne (by omega)), CS.fund hl h.2.2.2.2.1 h.2.2.2.2.2.2.1, hb⟩
theorem CS.ahead {a v : Nat} {y : Nat} (hl : l < T 0) (h1 : 1 ≤ y) (h2 : y ≤ T (12 + 7 * l + 3)) (hW : TW T) (h : CS M.1 a T S) : CS (sI M (a + 5) (21 * l + y) (nI v)).1 a T (upS S (1299 + 21 * l + y) v) := by
  have w0 := hW.1
  have w1 := hW.2.1
  have wy := (hW.2.2 l hl).2.2.2.2.2.2.1
  refine h.up hW (upS_ne (by omega)) (by omega) (fun h' hh' => ?_) (fun l' hl' => ?_) (fun l' hl' y' y1' y2' => ?_) (fun l' hl' k' hk' => ?_)
  · rw [no_if (by omega), upS_ne (by omega)]
  · rw [no_if (by omega), no_if (by omega), upS_ne (by omega), upS_ne (by omega)]; exact ⟨rfl, rfl⟩
  · have w := (hW.2.2 l' hl').2.2.2.2.2.2.1
    rw [no_if (c := 5 = 4 ∧ 21 * l' + y' = 21 * l + y) (by omega), prS_cong (upS_ne (by omega))]
    by_cases e : 21 * l' + y' = 21 * l + y
    · rw [if_pos ⟨rfl, e⟩, show 1299 + 21 * l' + y' = 1299 + 21 * l + y by omega, upS_eq]; exact ⟨rfl, rfl⟩
    · rw [no_if (by omega), upS_ne (by omega)]; exact ⟨rfl, rfl⟩
  · have w := (hW.2.2 l' hl').2.1
    rw [no_if (by omega), no_if (by omega), no_if (by omega), no_if (by omega), upS_ne (by omega), upS_ne (by omega), upS_ne (by omega), upS_ne (by omega)]; exact ⟨rfl, rfl, rfl, rfl⟩
theorem CV.ahead {v : Nat} {y : Nat} (hl : l < T 0) (h1 : 1 ≤ y) (h2 : y ≤ T (12 + 7 * l + 3)) (h : CV B t M T S) (hT : t + 14 ≤ B + 15 ∨ B + 25 ≤ t) (hb : SB T (upS S (1299 + 21 * l + y) v)) : CV B t (sI M (B + 15 + 5) (21 * l + y) (nI v)) T (upS S (1299 + 21 * l + y) v) :=
  ⟨h.1, h.2.1, h.2.2.1, h.2.2.2.1, h.2.2.2.2.1, h.2.2.2.2.2.1.of (fun b b1 b2 => sI_ne (by omega)), CS.ahead hl h1 h2 h.2.2.2.2.1 h.2.2.2.2.2.2.1, hb⟩
theorem CS.cond {a v : Nat} {k : Nat} (hl : l < T 0) (hk : k < T (12 + 7 * l)) (hW : TW T) (h : CS M.1 a T S) : CS (sI M (a + 6) (60 * l + k) (nI v)).1 a T (upS S (60 * l + k) v) := by
  have w0 := hW.1
  have w1 := hW.2.1
  have wk := (hW.2.2 l hl).2.1
  refine h.up hW (upS_ne (by omega)) (by omega) (fun h' hh' => ?_) (fun l' hl' => ?_) (fun l' hl' y' y1' y2' => ?_) (fun l' hl' k' hk' => ?_)
  · rw [no_if (by omega), upS_ne (by omega)]
  · rw [no_if (by omega), no_if (by omega), upS_ne (by omega), upS_ne (by omega)]; exact ⟨rfl, rfl⟩
  · have w := (hW.2.2 l' hl').2.2.2.2.2.2.1
    rw [no_if (by omega), no_if (by omega), prS_cong (upS_ne (by omega)), upS_ne (by omega)]; exact ⟨rfl, rfl⟩
  · have w := (hW.2.2 l' hl').2.1
    rw [no_if (c := 6 = 7 ∧ 60 * l' + k' = 60 * l + k) (by omega), no_if (c := 6 = 8 ∧ 60 * l' + k' = 60 * l + k) (by omega), no_if (c := 6 = 9 ∧ 60 * l' + k' = 60 * l + k) (by omega)]
    rw [upS_ne (by omega) (k := 240 + 60 * l' + k'), upS_ne (by omega) (k := 480 + 60 * l' + k'), upS_ne (by omega) (k := 720 + 60 * l' + k')]
    by_cases e : 60 * l' + k' = 60 * l + k
    · rw [if_pos ⟨rfl, e⟩, show 60 * l' + k' = 60 * l + k by omega, upS_eq]; exact ⟨rfl, rfl, rfl, rfl⟩
    · rw [no_if (by omega), upS_ne (by omega)]; exact ⟨rfl, rfl, rfl, rfl⟩
theorem CV.cond {v : Nat} {k : Nat} (hl : l < T 0) (hk : k < T (12 + 7 * l)) (h : CV B t M T S) (hT : t + 14 ≤ B + 15 ∨ B + 25 ≤ t) (hb : SB T (upS S (60 * l + k) v)) : CV B t (sI M (B + 15 + 6) (60 * l + k) (nI v)) T (upS S (60 * l + k) v) :=
  ⟨h.1, h.2.1, h.2.2.1, h.2.2.2.1, h.2.2.2.2.1, h.2.2.2.2.2.1.of (fun b b1 b2 => sI_ne (by omega)), CS.cond hl hk h.2.2.2.2.1 h.2.2.2.2.2.2.1, hb⟩
theorem CS.own {a v : Nat} {k : Nat} (hl : l < T 0) (hk : k < T (12 + 7 * l)) (hW : TW T) (h : CS M.1 a T S) : CS (sI M (a + 7) (60 * l + k) (nI v - 1)).1 a T (upS S (240 + 60 * l + k) v) := by
  have w0 := hW.1
  have w1 := hW.2.1
  have wk := (hW.2.2 l hl).2.1
  refine h.up hW (upS_ne (by omega)) (by omega) (fun h' hh' => ?_) (fun l' hl' => ?_) (fun l' hl' y' y1' y2' => ?_) (fun l' hl' k' hk' => ?_)
  · rw [no_if (by omega), upS_ne (by omega)]
  · rw [no_if (by omega), no_if (by omega), upS_ne (by omega), upS_ne (by omega)]; exact ⟨rfl, rfl⟩
  · have w := (hW.2.2 l' hl').2.2.2.2.2.2.1
    rw [no_if (by omega), no_if (by omega), prS_cong (upS_ne (by omega)), upS_ne (by omega)]; exact ⟨rfl, rfl⟩
  · have w := (hW.2.2 l' hl').2.1
    rw [no_if (c := 7 = 6 ∧ 60 * l' + k' = 60 * l + k) (by omega), no_if (c := 7 = 8 ∧ 60 * l' + k' = 60 * l + k) (by omega), no_if (c := 7 = 9 ∧ 60 * l' + k' = 60 * l + k) (by omega)]
    rw [upS_ne (by omega) (k := 60 * l' + k'), upS_ne (by omega) (k := 480 + 60 * l' + k'), upS_ne (by omega) (k := 720 + 60 * l' + k')]
    by_cases e : 60 * l' + k' = 60 * l + k
    · rw [if_pos ⟨rfl, e⟩, show 240 + 60 * l' + k' = 240 + 60 * l + k by omega, upS_eq]; exact ⟨rfl, rfl, rfl, rfl⟩
    · rw [no_if (by omega), upS_ne (by omega)]; exact ⟨rfl, rfl, rfl, rfl⟩
theorem CV.own {v : Nat} {k : Nat} (hl : l < T 0) (hk : k < T (12 + 7 * l)) (h : CV B t M T S) (hT : t + 14 ≤ B + 15 ∨ B + 25 ≤ t) (hb : SB T (upS S (240 + 60 * l + k) v)) : CV B t (sI M (B + 15 + 7) (60 * l + k) (nI v - 1)) T (upS S (240 + 60 * l + k) v) :=
  ⟨h.1, h.2.1, h.2.2.1, h.2.2.2.1, h.2.2.2.2.1, h.2.2.2.2.2.1.of (fun b b1 b2 => sI_ne (by omega)), CS.own hl hk h.2.2.2.2.1 h.2.2.2.2.2.2.1, hb⟩
theorem CS.ret {a v : Nat} {k : Nat} (hl : l < T 0) (hk : k < T (12 + 7 * l)) (hW : TW T) (h : CS M.1 a T S) : CS (sI M (a + 8) (60 * l + k) (nI v)).1 a T (upS S (480 + 60 * l + k) v) := by
  have w0 := hW.1
  have w1 := hW.2.1
  have wk := (hW.2.2 l hl).2.1
  refine h.up hW (upS_ne (by omega)) (by omega) (fun h' hh' => ?_) (fun l' hl' => ?_) (fun l' hl' y' y1' y2' => ?_) (fun l' hl' k' hk' => ?_)
  · rw [no_if (by omega), upS_ne (by omega)]
  · rw [no_if (by omega), no_if (by omega), upS_ne (by omega), upS_ne (by omega)]; exact ⟨rfl, rfl⟩
  · have w := (hW.2.2 l' hl').2.2.2.2.2.2.1
    rw [no_if (by omega), no_if (by omega), prS_cong (upS_ne (by omega)), upS_ne (by omega)]; exact ⟨rfl, rfl⟩
  · have w := (hW.2.2 l' hl').2.1
    rw [no_if (c := 8 = 6 ∧ 60 * l' + k' = 60 * l + k) (by omega), no_if (c := 8 = 7 ∧ 60 * l' + k' = 60 * l + k) (by omega), no_if (c := 8 = 9 ∧ 60 * l' + k' = 60 * l + k) (by omega)]
    rw [upS_ne (by omega) (k := 60 * l' + k'), upS_ne (by omega) (k := 240 + 60 * l' + k'), upS_ne (by omega) (k := 720 + 60 * l' + k')]
    by_cases e : 60 * l' + k' = 60 * l + k
    · rw [if_pos ⟨rfl, e⟩, show 480 + 60 * l' + k' = 480 + 60 * l + k by omega, upS_eq]; exact ⟨rfl, rfl, rfl, rfl⟩
    · rw [no_if (by omega), upS_ne (by omega)]; exact ⟨rfl, rfl, rfl, rfl⟩
theorem CV.ret {v : Nat} {k : Nat} (hl : l < T 0) (hk : k < T (12 + 7 * l)) (h : CV B t M T S) (hT : t + 14 ≤ B + 15 ∨ B + 25 ≤ t) (hb : SB T (upS S (480 + 60 * l + k) v)) : CV B t (sI M (B + 15 + 8) (60 * l + k) (nI v)) T (upS S (480 + 60 * l + k) v) :=
  ⟨h.1, h.2.1, h.2.2.1, h.2.2.2.1, h.2.2.2.2.1, h.2.2.2.2.2.1.of (fun b b1 b2 => sI_ne (by omega)), CS.ret hl hk h.2.2.2.2.1 h.2.2.2.2.2.2.1, hb⟩
theorem CS.place {a v : Nat} {k : Nat} (hl : l < T 0) (hk : k < T (12 + 7 * l)) (hW : TW T) (h : CS M.1 a T S) : CS (sI M (a + 9) (60 * l + k) (nI v)).1 a T (upS S (720 + 60 * l + k) v) := by
  have w0 := hW.1
  have w1 := hW.2.1
  have wk := (hW.2.2 l hl).2.1
  refine h.up hW (upS_ne (by omega)) (by omega) (fun h' hh' => ?_) (fun l' hl' => ?_) (fun l' hl' y' y1' y2' => ?_) (fun l' hl' k' hk' => ?_)
  · rw [no_if (by omega), upS_ne (by omega)]
  · rw [no_if (by omega), no_if (by omega), upS_ne (by omega), upS_ne (by omega)]; exact ⟨rfl, rfl⟩
  · have w := (hW.2.2 l' hl').2.2.2.2.2.2.1
    rw [no_if (by omega), no_if (by omega), prS_cong (upS_ne (by omega)), upS_ne (by omega)]; exact ⟨rfl, rfl⟩
  · have w := (hW.2.2 l' hl').2.1
    rw [no_if (c := 9 = 6 ∧ 60 * l' + k' = 60 * l + k) (by omega), no_if (c := 9 = 7 ∧ 60 * l' + k' = 60 * l + k) (by omega), no_if (c := 9 = 8 ∧ 60 * l' + k' = 60 * l + k) (by omega)]
    rw [upS_ne (by omega) (k := 60 * l' + k'), upS_ne (by omega) (k := 240 + 60 * l' + k'), upS_ne (by omega) (k := 480 + 60 * l' + k')]
    by_cases e : 60 * l' + k' = 60 * l + k
    · rw [if_pos ⟨rfl, e⟩, show 720 + 60 * l' + k' = 720 + 60 * l + k by omega, upS_eq]; exact ⟨rfl, rfl, rfl, rfl⟩
    · rw [no_if (by omega), upS_ne (by omega)]; exact ⟨rfl, rfl, rfl, rfl⟩
theorem CV.place {v : Nat} {k : Nat} (hl : l < T 0) (hk : k < T (12 + 7 * l)) (h : CV B t M T S) (hT : t + 14 ≤ B + 15 ∨ B + 25 ≤ t) (hb : SB T (upS S (720 + 60 * l + k) v)) : CV B t (sI M (B + 15 + 9) (60 * l + k) (nI v)) T (upS S (720 + 60 * l + k) v) :=
  ⟨h.1, h.2.1, h.2.2.1, h.2.2.2.1, h.2.2.2.2.1, h.2.2.2.2.2.1.of (fun b b1 b2 => sI_ne (by omega)), CS.place hl hk h.2.2.2.2.1 h.2.2.2.2.2.2.1, hb⟩
/-- places that only the reference has -/
theorem CS.ref {a : Nat} {j v : Nat} (hW : TW T) (h : CS M.1 a T S) (hj : (960 ≤ j ∧ j < 1200) ∨ 1383 ≤ j) : CS M.1 a T (upS S j v) := by
  have w0 := hW.1
  have w1 := hW.2.1
  obtain ⟨h1, h2, h3, h4, h5⟩ := h
  refine ⟨by rw [upS_ne (by omega)]; exact h1, fun h hh => by rw [upS_ne (by omega)]; exact h2 h hh, fun l hl => by rw [upS_ne (by omega), upS_ne (by omega)]; exact h3 l hl, fun l hl y y1 y2 => ?_, fun l hl k hk => ?_⟩
  · have w := (hW.2.2 l hl).2.2.2.2.2.2.1
    rw [prS_cong (upS_ne (by omega)), upS_ne (by omega)]; exact h4 l hl y y1 y2
  · have w := (hW.2.2 l hl).2.1
    rw [upS_ne (by omega), upS_ne (by omega), upS_ne (by omega), upS_ne (by omega)]; exact h5 l hl k hk
theorem CV.ref {j v : Nat} (h : CV B t M T S) (hj : (960 ≤ j ∧ j < 1200) ∨ 1383 ≤ j) : CV B t M T (upS S j v) := ⟨h.1, h.2.1, h.2.2.1, h.2.2.2.1, h.2.2.2.2.1, h.2.2.2.2.2.1, h.2.2.2.2.2.2.1.ref h.2.2.2.2.1 hj, h.2.2.2.2.2.2.2.up h.2.2.2.2.1 (by omega)⟩
theorem CS.yr {a v : Nat} (h : CS M.1 a T S) (hW : TW T) : CS (sI M a 0 (nI v)).1 a T (upS S 1206 v) := by
  have w0 := hW.1
  have w1 := hW.2.1
  obtain ⟨h1, h2, h3, h4, h5⟩ := h
  refine ⟨by rw [sI_hit, upS_eq], fun h hh => by rw [sI_ne (by omega), upS_ne (by omega)]; exact h2 h hh, fun l hl => by rw [sI_ne (by omega), sI_ne (by omega), upS_ne (by omega), upS_ne (by omega)]; exact h3 l hl, fun l hl y y1 y2 => ?_, fun l hl k hk => ?_⟩
  · have w := (hW.2.2 l hl).2.2.2.2.2.2.1
    rw [sI_ne (by omega), sI_ne (by omega), prS_cong (upS_ne (by omega)), upS_ne (by omega)]; exact h4 l hl y y1 y2
  · have w := (hW.2.2 l hl).2.1
    rw [sI_ne (by omega), sI_ne (by omega), sI_ne (by omega), sI_ne (by omega), upS_ne (by omega), upS_ne (by omega), upS_ne (by omega), upS_ne (by omega)]; exact h5 l hl k hk
theorem CV.yr {v : Nat} (h : CV B t M T S) (hT : t + 14 ≤ B + 15 ∨ B + 25 ≤ t) (hv : v ≤ 60) : CV B t (sI M (B + 15) 0 (nI v)) T (upS S 1206 v) :=
  ⟨h.1, h.2.1, h.2.2.1, h.2.2.2.1, h.2.2.2.2.1, h.2.2.2.2.2.1.of (fun b b1 b2 => sI_ne (by omega)), h.2.2.2.2.2.2.1.yr h.2.2.2.2.1, h.2.2.2.2.2.2.2.up h.2.2.2.2.1 (by omega)⟩
theorem v_loanOf (hQ : RV B M T S) (hl : l < T 0) {w : Nat} (hw : w < 7) : f_X8_loanOf (B + 59) (nI l) (nI w) M = some (nI (T (12 + 7 * l + w)), M) := by
  have w0 := hQ.2.2.2.1.1
  have h0 := hQ.2.1 (12 + 7 * l + w) (by omega)
  simp (disch := omega) only [f_X8_loanOf, reduceIte, ↓reduceIte, ↓ck_i, ↓nm_s, ↓bR_i, ↓bd_i, Option.isSome_some, Option.getD_some, gK, gR, gN, gIs, inb_nI, and_self, nI_clamp, fa_lit, pk_mul, nI_add, n10, n1z, n00, eq_self, not_true_eq_false, not_false_eq_true, hQ.1, h0]
theorem v_howMany_lp (hQ : RV B M T S) (hl : l < T 0) {st : Nat} (hst : st < 2 ^ 31) : ∀ (d k n : Nat), k + d = T (12 + 7 * l) → d < n → f_X8_howMany_5 n (B + 59) (nI l) (nI st) (nI (fb_ct (fun k => decide (S (60 * l + k) = st)) k)) (nI (k + 1)) M = some (nI (fb_ct (fun k => decide (S (60 * l + k) = st)) (T (12 + 7 * l))), M) := by
  have w := (hQ.2.2.2.1.2.2 l hl).2.1
  have w0 := hQ.2.2.2.1.1
  have lo := v_loanOf hQ hl (w := 0) (by omega)
  intro d
  induction d with
  | zero =>
    intro k n hk hn
    obtain ⟨n, rfl⟩ : ∃ m, n = m + 1 := ⟨n - 1, by omega⟩
    have hk : k = T (12 + 7 * l) := by omega
    subst hk
    simp (disch := omega) only [f_X8_howMany_5, reduceIte, ↓reduceIte, ↓ck_i, ↓nm_s, ↓bR_i, ↓bd_i, Option.isSome_some, Option.getD_some, gK, gR, gN, gIs, inb_nI, and_self, nI_clamp, fa_lit, pk_mul, nI_add, n10, n1z, n00, eq_self, not_true_eq_false, not_false_eq_true, hQ.1, lo, nI_ltI, Nat.add_zero, Nat.lt_succ_self]
  | succ d ih =>
    intro k n hk hn
    obtain ⟨n, rfl⟩ : ∃ m, n = m + 1 := ⟨n - 1, by omega⟩
    have hk2 : ¬ T (12 + 7 * l) < k + 1 := by omega
    have v3 := (hQ.2.2.2.2.2.2.2.2 l hl k (by omega)).1
    have n0 := hQ.2.2.1 (60 * l + k) (by omega)
    have ih := ih (k + 1) n (by omega) (by omega)
    rw [fb_ct_succ] at ih
    rw [← ih]
    by_cases hq : S (60 * l + k) = st
    · simp (disch := omega) only [f_X8_howMany_5, reduceIte, ↓reduceIte, ↓ck_i, ↓nm_s, ↓bR_i, ↓bd_i, Option.isSome_some, Option.getD_some, gK, gR, gN, gIs, inb_nI, and_self, nI_clamp, fa_lit, pk_mul, nI_add, n10, n1z, n00, eq_self, not_true_eq_false, not_false_eq_true, hQ.1, lo, p_bondAt, nI_ltI, nI_eq, Nat.add_zero, hk2, n0, Nat.zero_add, hq, decide_true]
    · simp (disch := omega) only [f_X8_howMany_5, reduceIte, ↓reduceIte, ↓ck_i, ↓nm_s, ↓bR_i, ↓bd_i, Option.isSome_some, Option.getD_some, gK, gR, gN, gIs, inb_nI, and_self, nI_clamp, fa_lit, pk_mul, nI_add, n10, n1z, n00, eq_self, not_true_eq_false, not_false_eq_true, hQ.1, lo, p_bondAt, nI_ltI, nI_eq, Nat.add_zero, hk2, n0, Nat.zero_add, hq, decide_false, Bool.false_eq_true]
theorem v_howMany (hQ : RV B M T S) (hl : l < T 0) {st : Nat} (hst : st < 2 ^ 31) : f_X8_howMany (B + 59) (nI l) (nI st) M = some (nI (ctS T S l st), M) := by
  have w := (hQ.2.2.2.1.2.2 l hl).2.1
  exact v_howMany_lp hQ hl hst (T (12 + 7 * l)) 0 FU (by omega) (by unfold FU; omega)
theorem w_countBonds_lp (hQ : CV B t M T S) (hl : l < T 0) {st : Nat} (hst : st < 2 ^ 31) : ∀ (d k n : Nat), k + d = T (12 + 7 * l) → d < n → f_X5_countBonds_6 n (B + 15) t (nI l) (nI st) (nI (fb_ct (fun k => decide (S (60 * l + k) = st)) k)) (nI (k + 1)) M = some (nI (fb_ct (fun k => decide (S (60 * l + k) = st)) (T (12 + 7 * l))), M) := by
  have w := (hQ.2.2.2.2.1.2.2 l hl).2.1
  have w0 := hQ.2.2.2.2.1.1
  have c2 := (hQ.2.2.2.2.2.1.2.2.1 l hl).1
  intro d
  induction d with
  | zero =>
    intro k n hk hn
    obtain ⟨n, rfl⟩ : ∃ m, n = m + 1 := ⟨n - 1, by omega⟩
    have hk : k = T (12 + 7 * l) := by omega
    subst hk
    simp (disch := omega) only [f_X5_countBonds_6, reduceIte, ↓reduceIte, ↓ck_i, ↓nm_s, ↓bR_i, ↓bd_i, Option.isSome_some, Option.getD_some, gK, gR, gN, gIs, inb_nI, and_self, nI_clamp, fa_lit, pk_mul, nI_add, n10, n1z, n00, eq_self, not_true_eq_false, not_false_eq_true, hQ.1, hQ.2.2.1, c2, nI_ltI, Nat.lt_succ_self]
  | succ d ih =>
    intro k n hk hn
    obtain ⟨n, rfl⟩ : ∃ m, n = m + 1 := ⟨n - 1, by omega⟩
    have hk2 : ¬ T (12 + 7 * l) < k + 1 := by omega
    have v3 := (hQ.2.2.2.2.2.2.2.2.2.2.2 l hl k (by omega)).1
    have n0 := (hQ.2.2.2.2.2.2.1.2.2.2.2 l hl k (by omega)).1
    have ih := ih (k + 1) n (by omega) (by omega)
    rw [fb_ct_succ] at ih
    rw [← ih]
    by_cases hq : S (60 * l + k) = st
    · simp (disch := omega) only [f_X5_countBonds_6, reduceIte, ↓reduceIte, ↓ck_i, ↓nm_s, ↓bR_i, ↓bd_i, Option.isSome_some, Option.getD_some, gK, gR, gN, gIs, inb_nI, and_self, nI_clamp, fa_lit, pk_mul, nI_add, n10, n1z, n00, eq_self, not_true_eq_false, not_false_eq_true, hQ.1, hQ.2.2.1, hQ.2.2.2.1, c2, p_spotOf, nI_ltI, nI_eq, Nat.add_zero, hk2, n0, hq, decide_true]
    · simp (disch := omega) only [f_X5_countBonds_6, reduceIte, ↓reduceIte, ↓ck_i, ↓nm_s, ↓bR_i, ↓bd_i, Option.isSome_some, Option.getD_some, gK, gR, gN, gIs, inb_nI, and_self, nI_clamp, fa_lit, pk_mul, nI_add, n10, n1z, n00, eq_self, not_true_eq_false, not_false_eq_true, hQ.1, hQ.2.2.1, hQ.2.2.2.1, c2, p_spotOf, nI_ltI, nI_eq, Nat.add_zero, hk2, n0, hq, decide_false, Bool.false_eq_true]
theorem w_countBonds (hQ : CV B t M T S) (hl : l < T 0) {st : Nat} (hst : st < 2 ^ 31) : f_X5_countBonds (B + 15) t (nI l) (nI st) M = some (nI (ctS T S l st), M) := by
  have w := (hQ.2.2.2.2.1.2.2 l hl).2.1
  exact w_countBonds_lp hQ hl hst (T (12 + 7 * l)) 0 FU (by omega) (by unfold FU; omega)
theorem v_priceOf (hQ : RV B M T S) (hl : l < T 0) (hk : k < T (12 + 7 * l + 3)) : f_X8_priceOf (B + 59) (nI l) (nI (k + 1)) M = some (nI (prS T S l (k + 1)), M) := by
  have w := (hQ.2.2.2.1.2.2 l hl).2.2.2.2.2.2.1
  have w0 := hQ.2.2.2.1.1
  have v := hQ.2.2.2.2.2.2.2.1 l hl (k + 1) (by omega) (by omega)
  have lo1 := v_loanOf hQ hl (w := 1) (by omega)
  have h6 := hQ.2.2.1 (1215 + 21 * l + (k + 1)) (by omega)
  by_cases h : S (1215 + 21 * l + (k + 1)) = 0
  · simp (disch := omega) only [f_X8_priceOf, reduceIte, ↓reduceIte, ↓ck_i, ↓nm_s, ↓bR_i, ↓bd_i, Option.isSome_some, Option.getD_some, gK, gR, gN, gIs, inb_nI, and_self, nI_clamp, fa_lit, pk_mul, nI_add, n10, n1z, n00, eq_self, not_true_eq_false, not_false_eq_true, hQ.1, lo1, h6, nI_eq, prS, h]
  · simp (disch := omega) only [f_X8_priceOf, reduceIte, ↓reduceIte, ↓ck_i, ↓nm_s, ↓bR_i, ↓bd_i, Option.isSome_some, Option.getD_some, gK, gR, gN, gIs, inb_nI, and_self, nI_clamp, fa_lit, pk_mul, nI_add, n10, n1z, n00, eq_self, not_true_eq_false, not_false_eq_true, hQ.1, lo1, h6, nI_eq, prS, h]
theorem v_prizeOf (hQ : RV B M T S) (hl : l < T 0) {r : Nat} (hr : r < 2 ^ 31) : f_X8_prizeOf (B + 59) (nI l) (nI r) M = some (nI (if r ≤ 9 then T (40 + 10 * l + r) else 0), M) := by
  have w0 := hQ.2.2.2.1.1
  by_cases h : r ≤ 9
  · have h6 := hQ.2.1 (40 + 10 * l + r) (by omega)
    have h7 : ¬ 9 < r := by omega
    simp (disch := omega) only [f_X8_prizeOf, reduceIte, ↓reduceIte, ↓ck_i, ↓nm_s, ↓bR_i, ↓bd_i, Option.isSome_some, Option.getD_some, gK, gR, gN, gIs, inb_nI, and_self, nI_clamp, fa_lit, pk_mul, nI_add, n10, n1z, n00, eq_self, not_true_eq_false, not_false_eq_true, hQ.1, nI_ltI, h, h7, h6]
  · have h7 : 9 < r := by omega
    simp (disch := omega) only [f_X8_prizeOf, reduceIte, ↓reduceIte, ↓ck_i, ↓nm_s, ↓bR_i, ↓bd_i, Option.isSome_some, Option.getD_some, gK, gR, gN, gIs, inb_nI, and_self, nI_clamp, fa_lit, pk_mul, nI_add, n10, n1z, n00, eq_self, not_true_eq_false, not_false_eq_true, hQ.1, nI_ltI, h, h7]
theorem v_owedFor (hQ : RV B M T S) (hl : l < T 0) (hk : k < T (12 + 7 * l)) : f_X8_owedFor (B + 59) (nI l) (nI (k + 1)) M = some (nI (dsS T S l k), M) := by
  have w := (hQ.2.2.2.1.2.2 l hl).2.1
  have w0 := hQ.2.2.2.1.1
  have v2 := (hQ.2.2.2.2.2.2.2.2 l hl k hk).2.2.2
  have lo1 := v_loanOf hQ hl (w := 1) (by omega)
  have h6 := hQ.2.2.1 (720 + 60 * l + k) (by omega)
  have pz := v_prizeOf hQ hl (r := S (720 + 60 * l + k)) (by omega)
  simp (disch := omega) only [f_X8_owedFor, reduceIte, ↓reduceIte, ↓ck_i, ↓nm_s, ↓bR_i, ↓bd_i, Option.isSome_some, Option.getD_some, gK, gR, gN, gIs, inb_nI, and_self, nI_clamp, fa_lit, pk_mul, nI_add, n10, n1z, n00, eq_self, not_true_eq_false, not_false_eq_true, hQ.1, lo1, p_bondAt, ← Nat.add_assoc, h6, pz, dsS]
theorem w_prizeOf (hQ : CV B t M T S) (hl : l < T 0) {r : Nat} (h1 : 1 ≤ r) (hr : r < 2 ^ 31) : f_X6_prizeOf t (nI l) (nI r) M = some (nI (if r ≤ 9 then T (40 + 10 * l + r) else 0), M) := by
  have w0 := hQ.2.2.2.2.1.1
  have h0 : ¬ r < 1 := by omega
  by_cases h : r ≤ 9
  · have h6 := hQ.2.2.2.2.2.1.2.2.2 l hl r h1 h
    have h7 : ¬ 9 < r := by omega
    simp (disch := omega) only [f_X6_prizeOf, reduceIte, ↓reduceIte, ↓ck_i, ↓nm_s, ↓bR_i, ↓bd_i, Option.isSome_some, Option.getD_some, gK, gR, gN, gIs, inb_nI, and_self, nI_clamp, fa_lit, pk_mul, nI_add, n10, n1z, n00, eq_self, not_true_eq_false, not_false_eq_true, nI_ltI, nI_leI, h0, h, h7, h6, p_rankOf, hQ.2.2.1]
  · have h7 : 9 < r := by omega
    simp (disch := omega) only [f_X6_prizeOf, reduceIte, ↓reduceIte, ↓ck_i, ↓nm_s, ↓bR_i, ↓bd_i, Option.isSome_some, Option.getD_some, gK, gR, gN, gIs, inb_nI, and_self, nI_clamp, fa_lit, pk_mul, nI_add, n10, n1z, n00, eq_self, not_true_eq_false, not_false_eq_true, nI_ltI, nI_leI, h0, h, h7]
theorem w_drawnSum (hQ : CV B t M T S) (hl : l < T 0) (hk : k < T (12 + 7 * l)) (hn : 1 ≤ S (720 + 60 * l + k)) : f_X7_drawnSum B (nI l) (nI (60 * l + k)) M = some (nI (dsS T S l k), M) := by
  have w := (hQ.2.2.2.2.1.2.2 l hl).2.1
  have w0 := hQ.2.2.2.2.1.1
  have c2 := hQ.2.2.2.2.2.1.2.2.1 l hl
  have s3 := (hQ.2.2.2.2.2.2.1.2.2.2.2 l hl k hk).2.2.2
  have v2 := (hQ.2.2.2.2.2.2.2.2.2.2.2 l hl k hk).2.2.2
  have pz := w_prizeOf hQ hl (r := S (720 + 60 * l + k)) hn (by omega)
  simp (disch := omega) only [f_X7_drawnSum, reduceIte, ↓reduceIte, ↓ck_i, ↓nm_s, ↓bR_i, ↓bd_i, Option.isSome_some, Option.getD_some, gK, gR, gN, gIs, inb_nI, and_self, nI_clamp, fa_lit, pk_mul, nI_add, n10, n1z, n00, eq_self, not_true_eq_false, not_false_eq_true, hQ.1, hQ.2.1, hQ.2.2.1, hQ.2.2.2.1, c2, s3, pz, dsS]
/-- cash that comes to the holder g - 1 (0: nobody) -/
def pyS (S : Nat → Nat) (g p : Nat) : Nat → Nat := if g = 0 then S else upS S (1200 + (g - 1)) (min 1000000000 (S (1200 + (g - 1)) + p))
theorem neg1_lt : (nI 0 - nI 1 < nI 0) = True := by decide
theorem w_pay {g : Nat} (h : CV B t M T S) (hT : t + 14 ≤ B + 15 ∨ B + 25 ≤ t) (hg : g ≤ T 1) (hp : p ≤ 1000000000) : ∃ N, f_X5_pay (B + 15) (nI g - nI 1) (nI p) M = some ((), N) ∧ CV B t N T (pyS S g p) ∧ KS B M N := by
  have w1 := h.2.2.2.2.1.2.1
  by_cases h0 : g = 0
  · subst h0
    refine ⟨M, ?_, by unfold pyS; rw [if_pos rfl]; exact h, KS.rf⟩
    simp only [f_X5_pay, reduceIte, ↓reduceIte, ↓ck_i, ↓nm_s, ↓bR_i, ↓bd_i, Option.isSome_some, Option.getD_some, gK, gR, gN, gIs, inb_nI, and_self, nI_clamp, fa_lit, pk_mul, nI_add, n10, n1z, n00, eq_self, not_true_eq_false, not_false_eq_true, neg1_lt]
  · obtain ⟨j, rfl⟩ : ∃ j, g = j + 1 := ⟨g - 1, by omega⟩
    have c1 := h.2.2.2.2.2.2.1.2.1 j (by omega)
    have b1 := h.2.2.2.2.2.2.2.2.1 j (by omega)
    have e1 : ¬ j < 0 := by omega
    have e2 : ¬ 6 ≤ j := by omega
    refine ⟨sI M (B + 15 + 1) j (nI (min 1000000000 (S (1200 + j) + p))), ?_, ?_, KS.s (by omega)⟩
    · simp (disch := omega) only [f_X5_pay, reduceIte, ↓reduceIte, ↓ck_i, ↓nm_s, ↓bR_i, ↓bd_i, Option.isSome_some, Option.getD_some, gK, gR, gN, gIs, inb_nI, and_self, nI_clamp, fa_lit, pk_mul, nI_add, n10, n1z, n00, eq_self, not_true_eq_false, not_false_eq_true, pk_sub, Nat.add_sub_cancel, nI_ltI, e1, h.2.2.2.1, ofnI, nI_leI, e2, c1, j_min]
    · unfold pyS
      rw [if_neg h0, Nat.add_sub_cancel]
      exact CV.cash (by omega) h hT (h.2.2.2.2.2.2.2.up h.2.2.2.2.1 (by omega))
theorem v_pay {g : Nat} (h : RV B M T S) (hg : g ≤ T 1) (hp : p ≤ 1000000000) : ∃ N, f_X8_pays (B + 59) (nI g - nI 1) (nI p) M = some ((), N) ∧ RV B N T (pyS S g p) ∧ KQ B M N := by
  have w1 := h.2.2.2.1.2.1
  by_cases h0 : g = 0
  · subst h0
    refine ⟨M, ?_, by unfold pyS; rw [if_pos rfl]; exact h, KQ.rf⟩
    have e : ¬ nI 0 ≤ nI 0 - nI 1 := by decide
    simp only [f_X8_pays, reduceIte, ↓reduceIte, ↓ck_i, ↓nm_s, ↓bR_i, ↓bd_i, Option.isSome_some, Option.getD_some, gK, gR, gN, gIs, inb_nI, and_self, nI_clamp, fa_lit, pk_mul, nI_add, n10, n1z, n00, eq_self, not_true_eq_false, not_false_eq_true, e]
  · obtain ⟨j, rfl⟩ : ∃ j, g = j + 1 := ⟨g - 1, by omega⟩
    have c1 := h.2.2.1 (1200 + j) (by omega)
    have b1 := h.2.2.2.2.2.1 j (by omega)
    have e1 : 0 ≤ j := by omega
    refine ⟨sI M (B + 63) (1200 + j) (nI (min 1000000000 (S (1200 + j) + p))), ?_, ?_, KQ.s⟩
    · by_cases e2 : S (1200 + j) + p ≤ 1000000000
      · rw [Nat.min_eq_right e2]
        simp (disch := omega) only [f_X8_pays, reduceIte, ↓reduceIte, ↓ck_i, ↓nm_s, ↓bR_i, ↓bd_i, Option.isSome_some, Option.getD_some, gK, gR, gN, gIs, inb_nI, and_self, nI_clamp, fa_lit, pk_mul, nI_add, n10, n1z, n00, eq_self, not_true_eq_false, not_false_eq_true, pk_sub, Nat.add_sub_cancel, nI_leI, e1, h.1, c1, nI_l, lN_add, fa_litL, pk_lLE, e2, lN_i]
      · rw [Nat.min_eq_left (by omega)]
        simp (disch := omega) only [f_X8_pays, reduceIte, ↓reduceIte, ↓ck_i, ↓nm_s, ↓bR_i, ↓bd_i, Option.isSome_some, Option.getD_some, gK, gR, gN, gIs, inb_nI, and_self, nI_clamp, fa_lit, pk_mul, nI_add, n10, n1z, n00, eq_self, not_true_eq_false, not_false_eq_true, pk_sub, Nat.add_sub_cancel, nI_leI, e1, h.1, c1, nI_l, lN_add, fa_litL, pk_lLE, e2]
    · unfold pyS
      rw [if_neg h0, Nat.add_sub_cancel]
      exact h.s (h.2.2.2.2.up h.2.2.2.1 (by omega))

end WEAK
section WEAK2
variable {B t c l y s f p : Nat} {T S : Nat → Nat} {M N : Mm}
theorem w_open (hQ : CV B t M T S) (ht : t + 14 ≤ B + 44) (hB : t ≠ B) (hl : l < T 0) : ∃ N, f_X4_open (B + 44) t (B + 15) (nI l) M = some ((), N) ∧ KO B M N ∧ RO B N T S l := by
  have w := (hQ.2.2.2.2.1.2.2 l hl).2.2.2.2.2.2.1
  have w0 := hQ.2.2.2.2.1.1
  have hM : CV B t (sI (sI (sI (sI (sI (sI (sI (sI M (B + 44) 0 (nI (T (12 + 7 * l)))) (B + 44) 1 (nI (T (12 + 7 * l + 1)))) (B + 44) 2 (nI (T (12 + 7 * l + 2)))) (B + 44) 3 (nI (T (12 + 7 * l + 4)))) (B + 44) 4 (nI (T (12 + 7 * l + 5)))) (B + 44) 5 (nI (S (1211 + l)))) (B + 44) 8 (nI (S 1206 + 1))) (B + 44) 9 (nI (T (12 + 7 * l + 3)))) T S := hQ.kp ht hB rfl (fun a ha => by rw [sI_ne (by omega), sI_ne (by omega), sI_ne (by omega), sI_ne (by omega), sI_ne (by omega), sI_ne (by omega), sI_ne (by omega), sI_ne (by omega)])
  have hct := w_countBonds hM hl (st := 0) (by omega)
  have k1 := eq_true (show cpOk (sI (sI (sI (sI (sI (sI (sI (sI (sI M (B + 44) 0 (nI (T (12 + 7 * l)))) (B + 44) 1 (nI (T (12 + 7 * l + 1)))) (B + 44) 2 (nI (T (12 + 7 * l + 2)))) (B + 44) 3 (nI (T (12 + 7 * l + 4)))) (B + 44) 4 (nI (T (12 + 7 * l + 5)))) (B + 44) 5 (nI (S (1211 + l)))) (B + 44) 8 (nI (S 1206 + 1))) (B + 44) 9 (nI (T (12 + 7 * l + 3)))) (B + 44) 10 (nI (ctS T S l 0))) (B + 15 + 4) (nI (21 * l + 0)) (B + 45) (nI 0) (nI 21) from cp_ok (ns := 84) (show M.2.2.2.1 (B + 15 + 4) = 10 by simp only [hQ.2.2.2.1]) (show M.2.2.2.1 (B + 45) = 10 by simp only [hQ.1]) (show M.2.2.2.2.1 (B + 15 + 4) = 84 by simp only [hQ.2.2.2.1]) (show M.2.2.2.2.1 (B + 45) = 21 by simp only [hQ.1]) (by omega) (by omega))
  have k2 := eq_true (show cpOk (sC (sI (sI (sI (sI (sI (sI (sI (sI (sI M (B + 44) 0 (nI (T (12 + 7 * l)))) (B + 44) 1 (nI (T (12 + 7 * l + 1)))) (B + 44) 2 (nI (T (12 + 7 * l + 2)))) (B + 44) 3 (nI (T (12 + 7 * l + 4)))) (B + 44) 4 (nI (T (12 + 7 * l + 5)))) (B + 44) 5 (nI (S (1211 + l)))) (B + 44) 8 (nI (S 1206 + 1))) (B + 44) 9 (nI (T (12 + 7 * l + 3)))) (B + 44) 10 (nI (ctS T S l 0))) (B + 45) (va_cpy (M.1 (B + 15 + 4)) (M.1 (B + 45)) (21 * l + 0) 0 21)) (t + 12) (nI (10 * l + 0)) (B + 46) (nI 0) (nI 10) from cp_ok (ns := 40) (show M.2.2.2.1 (t + 12) = 10 by simp only [hQ.2.2.1]) (show M.2.2.2.1 (B + 46) = 10 by simp only [hQ.1]) (show M.2.2.2.2.1 (t + 12) = 40 by simp only [hQ.2.2.1]) (show M.2.2.2.2.1 (B + 46) = 10 by simp only [hQ.1]) (by omega) (by omega))
  refine ⟨(sC (sC (sI (sI (sI (sI (sI (sI (sI (sI (sI M (B + 44) 0 (nI (T (12 + 7 * l)))) (B + 44) 1 (nI (T (12 + 7 * l + 1)))) (B + 44) 2 (nI (T (12 + 7 * l + 2)))) (B + 44) 3 (nI (T (12 + 7 * l + 4)))) (B + 44) 4 (nI (T (12 + 7 * l + 5)))) (B + 44) 5 (nI (S (1211 + l)))) (B + 44) 8 (nI (S 1206 + 1))) (B + 44) 9 (nI (T (12 + 7 * l + 3)))) (B + 44) 10 (nI (ctS T S l 0))) (B + 45) (va_cpy (M.1 (B + 15 + 4)) (M.1 (B + 45)) (21 * l + 0) 0 21)) (B + 46) (va_cpy (M.1 (t + 12)) (M.1 (B + 46)) (10 * l + 0) 0 10)), ?_, ⟨rfl, fun a ha => ?_⟩, ⟨⟨?_, ?_, ?_, ?_, ?_, ?_, ?_, ?_, ?_⟩, fun y h1 h2 => ?_, fun r h1 h2 => ?_⟩⟩
  · simp (disch := omega) only [f_X4_open, reduceIte, ↓reduceIte, ↓ck_i, ↓nm_s, ↓bR_i, ↓bd_i, Option.isSome_some, Option.getD_some, gK, gR, gN, gIs, inb_nI, and_self, nI_clamp, fa_lit, pk_mul, nI_add, n10, n1z, n00, eq_self, not_true_eq_false, not_false_eq_true, gIf, ofnI, sI_sh, sC_sh, sI_ne, sC_ne, hQ.1, hQ.2.2.1, hQ.2.2.2.1, hQ.2.2.2.2.2.1.2.2.1 l hl, hQ.2.2.2.2.2.2.1.2.2.1 l hl, hQ.2.2.2.2.2.2.1.1, hct, p_cellOf, p_rankOf, k1, k2]
  · rw [sC_ne (by omega), sC_ne (by omega), sI_ne (by omega), sI_ne (by omega), sI_ne (by omega), sI_ne (by omega), sI_ne (by omega), sI_ne (by omega), sI_ne (by omega), sI_ne (by omega), sI_ne (by omega)]
  · rw [sC_ne (by omega), sC_ne (by omega), sI_oth (by omega), sI_oth (by omega), sI_oth (by omega), sI_oth (by omega), sI_oth (by omega), sI_oth (by omega), sI_oth (by omega), sI_oth (by omega), sI_hit]
  · rw [sC_ne (by omega), sC_ne (by omega), sI_oth (by omega), sI_oth (by omega), sI_oth (by omega), sI_oth (by omega), sI_oth (by omega), sI_oth (by omega), sI_oth (by omega), sI_hit]
  · rw [sC_ne (by omega), sC_ne (by omega), sI_oth (by omega), sI_oth (by omega), sI_oth (by omega), sI_oth (by omega), sI_oth (by omega), sI_oth (by omega), sI_hit]
  · rw [sC_ne (by omega), sC_ne (by omega), sI_oth (by omega), sI_oth (by omega), sI_oth (by omega), sI_oth (by omega), sI_oth (by omega), sI_hit]
  · rw [sC_ne (by omega), sC_ne (by omega), sI_oth (by omega), sI_oth (by omega), sI_oth (by omega), sI_oth (by omega), sI_hit]
  · rw [sC_ne (by omega), sC_ne (by omega), sI_oth (by omega), sI_oth (by omega), sI_oth (by omega), sI_hit]
  · rw [sC_ne (by omega), sC_ne (by omega), sI_oth (by omega), sI_oth (by omega), sI_hit]
  · rw [sC_ne (by omega), sC_ne (by omega), sI_oth (by omega), sI_hit]
  · rw [sC_ne (by omega), sC_ne (by omega), sI_hit]
  · rw [sC_ne (by omega), sC_hit, pk_cpy_in (by omega) (by omega), show 21 * l + 0 + (y - 0) = 21 * l + y by omega]
    exact (hQ.2.2.2.2.2.2.1.2.2.2.1 l hl y h1 h2).1
  · rw [sC_hit, pk_cpy_in (by omega) (by omega), show 10 * l + 0 + (r - 0) = 10 * l + r by omega]
    exact hQ.2.2.2.2.2.1.2.2.2 l hl r h1 h2
/-- a year's step of the reference's -/
theorem v_stay (hR : RV B M T S) (hl : l < T 0) (h1 : 1 ≤ y) (hy : y ≤ T (12 + 7 * l + 3)) (hi : RI T l y s f) (hp : 1 ≤ p) (hp2 : p ≤ 999) :
    ∃ N, f_X8_stay (B + 59) (nI l) (nI y) (nI s) (nI f) (nI p) M = some (nI (duR T l p y s f), N) ∧ KT B M N ∧ N.1 (B + 68) = M.1 (B + 68) ∧ N.1 (B + 59) 19 = nI (duR T l p y s f) ∧ N.1 (B + 59) 20 = nI (csR T l p y) ∧ N.1 (B + 59) 21 = nI (bgR T l p y) ∧ N.1 (B + 59) 22 = nI (fuR T l p y s f) := by
  have hW := hR.2.2.2.1
  have w := hW.2.2 l hl
  have hd := hi.du (p := p) hW hl hy
  have hcs := csR_rng (y := y) hW hl hp hp2
  have hK : ∀ b f, RV B (sI (sI (sI M (B + 59) 21 b) (B + 59) 20 (nI (csR T l p y))) (B + 59) 22 f) T S := fun b f => ((hR.th (j := 21)).th (j := 20)).th (j := 22)
  have step : f_X8_stay (B + 59) (nI l) (nI y) (nI s) (nI f) (nI p) M = f_X8_stay_67 (B + 59) (nI l) (nI y) (nI s) (nI f) (nI (T (12 + 7 * l + 3))) (nI (T (12 + 7 * l + 4))) (nI (csR T l p y)) (B + 59) (sI M (B + 59) 21 (nI (bgR T l p y))) := by
    by_cases h1 : T (12 + 7 * l + 1) ≤ p
    · have e1 : ¬ p < T (12 + 7 * l + 1) := by omega
      simp (disch := omega) only [f_X8_stay, reduceIte, ↓reduceIte, ↓ck_i, ↓nm_s, ↓bR_i, ↓bd_i, Option.isSome_some, Option.getD_some, gK, gR, gN, gIs, inb_nI, and_self, nI_clamp, fa_lit, pk_mul, nI_add, n10, n1z, n00, eq_self, not_true_eq_false, not_false_eq_true, sI_sh, sI_ne, sI_hit, hR.1, v_loanOf hR hl, nI_leI, nI_eq, h1, bgR, csR, e1, false_and]
    · have e1 : p < T (12 + 7 * l + 1) := by omega
      by_cases h2 : y = T (12 + 7 * l + 3)
      · simp (disch := omega) only [f_X8_stay, reduceIte, ↓reduceIte, ↓ck_i, ↓nm_s, ↓bR_i, ↓bd_i, Option.isSome_some, Option.getD_some, gK, gR, gN, gIs, inb_nI, and_self, nI_clamp, fa_lit, pk_mul, nI_add, n10, n1z, n00, eq_self, not_true_eq_false, not_false_eq_true, sI_sh, sI_ne, sI_hit, hR.1, v_loanOf hR hl, nI_leI, nI_eq, h1, bgR, csR, e1, h2, ne_eq, true_and, false_and]
      · by_cases h3 : T (12 + 7 * l + 4) = 2
        · simp (disch := omega) only [f_X8_stay, reduceIte, ↓reduceIte, ↓ck_i, ↓nm_s, ↓bR_i, ↓bd_i, Option.isSome_some, Option.getD_some, gK, gR, gN, gIs, inb_nI, and_self, nI_clamp, fa_lit, pk_mul, nI_add, n10, n1z, n00, eq_self, not_true_eq_false, not_false_eq_true, sI_sh, sI_ne, sI_hit, hR.1, v_loanOf hR hl, nI_leI, nI_eq, h1, bgR, csR, e1, h2, h3, ne_eq, true_and, false_and]
        · simp (disch := omega) only [f_X8_stay, reduceIte, ↓reduceIte, ↓ck_i, ↓nm_s, ↓bR_i, ↓bd_i, Option.isSome_some, Option.getD_some, gK, gR, gN, gIs, inb_nI, and_self, nI_clamp, fa_lit, pk_mul, nI_add, n10, n1z, n00, eq_self, not_true_eq_false, not_false_eq_true, sI_sh, sI_ne, sI_hit, hR.1, v_loanOf hR hl, nI_leI, nI_eq, h1, bgR, csR, e1, h2, h3, ne_eq, true_and, false_and]
  rw [step]
  have fin : ∀ (u v : Int32), u = nI (duR T l p y s f) → v = nI (fuR T l p y s f) → ∀ N : Mm, N.2 = M.2 → (∀ a, a ≠ B + 59 → N.1 a = M.1 a) → (∀ j, j < 19 ∨ 22 < j → N.1 (B + 59) j = M.1 (B + 59) j) → N.1 (B + 59) 19 = u → N.1 (B + 59) 20 = nI (csR T l p y) → N.1 (B + 59) 21 = nI (bgR T l p y) → N.1 (B + 59) 22 = v → KT B M N ∧ N.1 (B + 68) = M.1 (B + 68) ∧ N.1 (B + 59) 19 = nI (duR T l p y s f) ∧ N.1 (B + 59) 20 = nI (csR T l p y) ∧ N.1 (B + 59) 21 = nI (bgR T l p y) ∧ N.1 (B + 59) 22 = nI (fuR T l p y s f) := by
    intro u v hu hv N n1 n2 n3 n4 n5 n6 n7
    exact ⟨⟨n1, fun a a1 _ => n2 a a1, n3⟩, n2 _ (by omega), by rw [n4, hu], n5, n6, by rw [n7, hv]⟩
  obtain ⟨i1, i2, i3⟩ := id hi
  by_cases c1 : y = T (12 + 7 * l + 3)
  · have d1 : duR T l p y s f = s := by unfold duR; rw [if_pos c1]
    have d2 : fuR T l p y s f = f := by unfold fuR; rw [if_pos c1]
    refine ⟨sI (sI (sI (sI M (B + 59) 21 (nI (bgR T l p y))) (B + 59) 20 (nI (csR T l p y))) (B + 59) 22 (nI f)) (B + 59) 19 (nI s), ?_, fin (nI s) (nI f) (by rw [d1]) (by rw [d2]) _ rfl (fun a ha => by rw [sI_ne ha, sI_ne ha, sI_ne ha, sI_ne ha]) (fun j hj => by rw [sI_oth (by omega), sI_oth (by omega), sI_oth (by omega), sI_oth (by omega)]) sI_hit (by rw [sI_oth (by omega), sI_oth (by omega), sI_hit]) (by rw [sI_oth (by omega), sI_oth (by omega), sI_oth (by omega), sI_hit]) (by rw [sI_oth (by omega), sI_hit])⟩
    rw [d1]
    have e1 : nI y = nI (T (12 + 7 * l + 3)) := by rw [c1]
    simp (disch := omega) only [f_X8_stay_67, reduceIte, ↓reduceIte, ↓ck_i, ↓nm_s, ↓bR_i, ↓bd_i, Option.isSome_some, Option.getD_some, gK, gR, gN, gIs, inb_nI, and_self, nI_clamp, fa_lit, pk_mul, nI_add, n10, n1z, n00, eq_self, not_true_eq_false, not_false_eq_true, sI_sh, sI_hit, hR.1, e1]
  · by_cases c2 : T (12 + 7 * l + 4) = 0
    · have hg := hi.ge c2
      have he := ev_le hW hl hy
      have hm : T (12 + 7 * l) * y ≤ 60 * 20 := Nat.mul_le_mul (by omega) (by omega)
      have d1 : duR T l p y s f = T (12 + 7 * l) * y / T (12 + 7 * l + 3) - (T (12 + 7 * l) - s) := by unfold duR; rw [if_neg c1, if_pos c2]; omega
      have d2 : fuR T l p y s f = f := by unfold fuR; rw [if_neg c1, if_neg (by omega)]
      have hq := hK (nI (bgR T l p y)) (nI f)
      have b2 : ¬ T (12 + 7 * l + 3) = 0 := by omega
      refine ⟨sI (sI (sI (sI M (B + 59) 21 (nI (bgR T l p y))) (B + 59) 20 (nI (csR T l p y))) (B + 59) 22 (nI f)) (B + 59) 19 (nI (T (12 + 7 * l) * y / T (12 + 7 * l + 3) - (T (12 + 7 * l) - s))), ?_, fin (nI (T (12 + 7 * l) * y / T (12 + 7 * l + 3) - (T (12 + 7 * l) - s))) (nI f) (by rw [d1]) (by rw [d2]) _ rfl (fun a ha => by rw [sI_ne ha, sI_ne ha, sI_ne ha, sI_ne ha]) (fun j hj => by rw [sI_oth (by omega), sI_oth (by omega), sI_oth (by omega), sI_oth (by omega)]) sI_hit (by rw [sI_oth (by omega), sI_oth (by omega), sI_hit]) (by rw [sI_oth (by omega), sI_oth (by omega), sI_oth (by omega), sI_hit]) (by rw [sI_oth (by omega), sI_hit])⟩
      rw [d1]
      have l0 := v_loanOf hq hl (w := 0) (by omega)
      simp (disch := omega) only [f_X8_stay_67, reduceIte, ↓reduceIte, ↓ck_i, ↓nm_s, ↓bR_i, ↓bd_i, Option.isSome_some, Option.getD_some, gK, gR, gN, gIs, inb_nI, and_self, nI_clamp, fa_lit, pk_mul, nI_add, n10, n1z, n00, eq_self, not_true_eq_false, not_false_eq_true, sI_sh, sI_hit, hR.1, nI_eq, c1, c2, l0, Nat.add_zero, b2, pk_div, pk_sub]
    · by_cases c3 : T (12 + 7 * l + 4) = 1
      · have hx := du_cs (hW := hW) (p := p) (s := s) (f := f) c1 c3
        have hm : T (12 + 7 * l + 2) * s ≤ 99 * 60 := Nat.mul_le_mul (by omega) (by omega)
        have hq0 : (f + (T (12 + 7 * l + 5) - T (12 + 7 * l + 2) * s)) / csR T l p y ≤ f + (T (12 + 7 * l + 5) - T (12 + 7 * l + 2) * s) := Nat.div_le_self _ _
        have d1 : duR T l p y s f = min s ((f + (T (12 + 7 * l + 5) - T (12 + 7 * l + 2) * s)) / csR T l p y) := by unfold duR; rw [if_neg c1, if_neg c2, if_pos c3]
        have d2 : fuR T l p y s f = f + (T (12 + 7 * l + 5) - T (12 + 7 * l + 2) * s) - duR T l p y s f * csR T l p y := by unfold fuR; rw [if_neg c1, if_pos c3]
        have hq := hK (nI (bgR T l p y)) (nI f)
        have l5 := v_loanOf hq hl (w := 5) (by omega)
        have l2 := v_loanOf hq hl (w := 2) (by omega)
        have b2 : ¬ csR T l p y = 0 := by omega
        have e192 : ∀ g : Nat, g = f + (T (12 + 7 * l + 5) - T (12 + 7 * l + 2) * s) → f_X8_stay_161 (B + 59) (nI s) (nI (T (12 + 7 * l + 5) - T (12 + 7 * l + 2) * s)) (nI f) (B + 59) (sI (sI (sI M (B + 59) 21 (nI (bgR T l p y))) (B + 59) 20 (nI (csR T l p y))) (B + 59) 22 (nI f)) = some (nI (duR T l p y s f), sI (sI (sI (sI (sI (sI M (B + 59) 21 (nI (bgR T l p y))) (B + 59) 20 (nI (csR T l p y))) (B + 59) 22 (nI f)) (B + 59) 22 (nI g)) (B + 59) 19 (nI (duR T l p y s f))) (B + 59) 22 (nI (g - duR T l p y s f * csR T l p y))) := by
          intro g hg
          rw [← hg] at hx hq0 d1
          by_cases hle : s ≤ g / csR T l p y
          · have d3 : duR T l p y s f = s := by rw [d1, Nat.min_eq_left hle]
            rw [d3] at hx ⊢
            simp (disch := omega) only [f_X8_stay_161, f_X8_stay_192, reduceIte, ↓reduceIte, ↓ck_i, ↓nm_s, ↓bR_i, ↓bd_i, Option.isSome_some, Option.getD_some, gK, gR, gN, gIs, inb_nI, and_self, nI_clamp, fa_lit, pk_mul, nI_add, n10, n1z, n00, eq_self, not_true_eq_false, not_false_eq_true, sI_sh, sI_hit, sI_oth, hR.1, nI_eq, nI_leI, b2, pk_div, ← hg, hle, pk_sub]
          · have d3 : duR T l p y s f = g / csR T l p y := by rw [d1, Nat.min_eq_right (by omega)]
            rw [d3] at hx ⊢
            simp (disch := omega) only [f_X8_stay_161, f_X8_stay_192, reduceIte, ↓reduceIte, ↓ck_i, ↓nm_s, ↓bR_i, ↓bd_i, Option.isSome_some, Option.getD_some, gK, gR, gN, gIs, inb_nI, and_self, nI_clamp, fa_lit, pk_mul, nI_add, n10, n1z, n00, eq_self, not_true_eq_false, not_false_eq_true, sI_sh, sI_hit, sI_oth, hR.1, nI_eq, nI_leI, b2, pk_div, ← hg, hle, pk_sub]
        refine ⟨sI (sI (sI (sI (sI (sI M (B + 59) 21 (nI (bgR T l p y))) (B + 59) 20 (nI (csR T l p y))) (B + 59) 22 (nI f)) (B + 59) 22 (nI (f + (T (12 + 7 * l + 5) - T (12 + 7 * l + 2) * s)))) (B + 59) 19 (nI (duR T l p y s f))) (B + 59) 22 (nI (f + (T (12 + 7 * l + 5) - T (12 + 7 * l + 2) * s) - duR T l p y s f * csR T l p y)), ?_, fin (nI (duR T l p y s f)) (nI (f + (T (12 + 7 * l + 5) - T (12 + 7 * l + 2) * s) - duR T l p y s f * csR T l p y)) rfl (by rw [d2]) _ rfl (fun a ha => by rw [sI_ne ha, sI_ne ha, sI_ne ha, sI_ne ha, sI_ne ha, sI_ne ha]) (fun j hj => by rw [sI_oth (by omega), sI_oth (by omega), sI_oth (by omega), sI_oth (by omega), sI_oth (by omega), sI_oth (by omega)]) (by rw [sI_oth (by omega), sI_hit]) (by rw [sI_oth (by omega), sI_oth (by omega), sI_oth (by omega), sI_oth (by omega), sI_hit]) (by rw [sI_oth (by omega), sI_oth (by omega), sI_oth (by omega), sI_oth (by omega), sI_oth (by omega), sI_hit]) sI_hit⟩
        rw [← e192 _ rfl]
        by_cases hms : T (12 + 7 * l + 5) ≤ T (12 + 7 * l + 2) * s
        · have hz : T (12 + 7 * l + 5) - T (12 + 7 * l + 2) * s = 0 := by omega
          simp (disch := omega) only [f_X8_stay_67, reduceIte, ↓reduceIte, ↓ck_i, ↓nm_s, ↓bR_i, ↓bd_i, Option.isSome_some, Option.getD_some, gK, gR, gN, gIs, inb_nI, and_self, nI_clamp, fa_lit, pk_mul, nI_add, n10, n1z, n00, eq_self, not_true_eq_false, not_false_eq_true, sI_sh, sI_hit, hR.1, nI_eq, c1, c2, c3, l5, l2, sub_le0, hms, hz]
        · have hz : ¬ T (12 + 7 * l + 5) - T (12 + 7 * l + 2) * s ≤ 0 := by omega
          simp (disch := omega) only [f_X8_stay_67, reduceIte, ↓reduceIte, ↓ck_i, ↓nm_s, ↓bR_i, ↓bd_i, Option.isSome_some, Option.getD_some, gK, gR, gN, gIs, inb_nI, and_self, nI_clamp, fa_lit, pk_mul, nI_add, n10, n1z, n00, eq_self, not_true_eq_false, not_false_eq_true, sI_sh, sI_hit, hR.1, nI_eq, c1, c2, c3, l5, l2, pk_sub, nI_leI, hz]
      · have d1 : duR T l p y s f = 0 := by unfold duR; rw [if_neg c1, if_neg c2, if_neg c3]
        have d2 : fuR T l p y s f = f := by unfold fuR; rw [if_neg c1, if_neg c3]
        refine ⟨sI (sI (sI (sI M (B + 59) 21 (nI (bgR T l p y))) (B + 59) 20 (nI (csR T l p y))) (B + 59) 22 (nI f)) (B + 59) 19 (nI 0), ?_, fin (nI 0) (nI f) (by rw [d1]) (by rw [d2]) _ rfl (fun a ha => by rw [sI_ne ha, sI_ne ha, sI_ne ha, sI_ne ha]) (fun j hj => by rw [sI_oth (by omega), sI_oth (by omega), sI_oth (by omega), sI_oth (by omega)]) sI_hit (by rw [sI_oth (by omega), sI_oth (by omega), sI_hit]) (by rw [sI_oth (by omega), sI_oth (by omega), sI_oth (by omega), sI_hit]) (by rw [sI_oth (by omega), sI_hit])⟩
        rw [d1]
        simp (disch := omega) only [f_X8_stay_67, reduceIte, ↓reduceIte, ↓ck_i, ↓nm_s, ↓bR_i, ↓bd_i, Option.isSome_some, Option.getD_some, gK, gR, gN, gIs, inb_nI, and_self, nI_clamp, fa_lit, pk_mul, nI_add, n10, n1z, n00, eq_self, not_true_eq_false, not_false_eq_true, sI_sh, sI_hit, hR.1, nI_eq, c1, c2, c3]
end WEAK2
