/-! year: a loan when rights lapse, and all loans -/
section YR8
variable {l y c : Nat} {T S X X2 : Nat → Nat}
theorem la_out (hl4 : l < 4) : ∀ k, k ≤ 60 → ∀ j, ¬ lq l j → laS T l y X k j = X j := fun k hk j hj => by
  unfold lq at hj
  exact laS_at hl4 hk (by omega) (by omega)
theorem la_sb (hW : TW T) (hl : l < T 0) (h : SB T X) : ∀ k, k ≤ T (12 + 7 * l) → SB T (laS T l y X k)
  | 0, _ => h
  | k + 1, hk => by
    have ih := la_sb hW hl h k (by omega)
    have w0 := hW.1
    have w := (hW.2.2 l hl).2.1
    show SB T (laS1 T l y (laS T l y X k) k)
    unfold laS1
    split
    · exact (ih.up hW (by omega)).up hW (by omega)
    · exact ih
theorem la_step (hW : TW T) (hl : l < T 0) {k : Nat} (hk : k < T (12 + 7 * l)) (h : LW T X l y c) : LW T (laS1 T l y X k) l y c := by
  have w0 := hW.1
  have w := (hW.2.2 l hl).2.1
  have w20 := (hW.2.2 l hl).2.2.2.2.2.2.1
  unfold laS1
  split
  · rename_i hs
    have hs1 := hs.1
    have e3 : upS (upS X (60 * l + k) 4) (1383 + 6 * l + 3) (X (1383 + 6 * l + 3) + dsS T X l k) (1383 + 6 * l + 3) = X (1383 + 6 * l + 3) + dsS T X l k := upS_eq
    have e4 : upS (upS X (60 * l + k) 4) (1383 + 6 * l + 3) (X (1383 + 6 * l + 3) + dsS T X l k) (60 * l + k) = 4 := by rw [upS_ne (by omega), upS_eq]
    have e0 : ∀ j, j ≠ 60 * l + k → j ≠ 1383 + 6 * l + 3 → upS (upS X (60 * l + k) 4) (1383 + 6 * l + 3) (X (1383 + 6 * l + 3) + dsS T X l k) j = X j := fun j j1 j2 => by rw [upS_ne j2, upS_ne j1]
    generalize upS (upS X (60 * l + k) 4) (1383 + 6 * l + 3) (X (1383 + 6 * l + 3) + dsS T X l k) = X2 at *
    obtain ⟨h1, h2, h3, h4, h5⟩ := h
    have b := h1.1 k hk
    have a48 : X2 (480 + 60 * l + k) = X (480 + 60 * l + k) := e0 _ (by omega) (by omega)
    have a24 : X2 (240 + 60 * l + k) = X (240 + 60 * l + k) := e0 _ (by omega) (by omega)
    have a72 : X2 (720 + 60 * l + k) = X (720 + 60 * l + k) := e0 _ (by omega) (by omega)
    have a96 : X2 (960 + 60 * l + k) = X (960 + 60 * l + k) := e0 _ (by omega) (by omega)
    have dd : dsS T X2 l k = dsS T X l k := by unfold dsS; rw [a72]
    have y0 : shY T X2 l k 0 y = shY T X l k 0 y := by
      unfold shY
      rw [if_pos rfl, if_pos rfl, e4, hs1, if_neg (by decide), if_neg (by decide), a48]
    have z : ∀ v, v < 6 → v ≠ 0 → v ≠ 4 → shS T X l k v = 0 := fun v v6 v0 v4 => by
      unfold shS
      split
      · omega
      · rw [hs1, if_neg (by decide)]
      · rw [hs1, if_neg (by decide)]
      · rw [hs1, if_neg (by decide)]
      · omega
      · rw [hs1, if_neg (by decide)]
    have z2 : ∀ v, v < 6 → v ≠ 0 → v ≠ 4 → v ≠ 3 → shS T X2 l k v = 0 := fun v v6 v0 v4 v3 => by
      unfold shS
      split
      · omega
      · rw [e4, if_neg (by decide)]
      · rw [e4, if_neg (by decide)]
      · omega
      · omega
      · rw [e4, if_neg (by decide)]
    have z3 : shS T X2 l k 3 = dsS T X l k := by
      show (if X2 (60 * l + k) = 4 then dsS T X2 l k else 0) = _
      rw [e4, if_pos rfl, dd]
    refine ⟨h1.upd hk (fun _ _ => rfl) (fun i hi hne => ⟨e0 _ (by omega) (by omega), e0 _ (by omega) (by omega), e0 _ (by omega) (by omega), e0 _ (by omega) (by omega), e0 _ (by omega) (by omega)⟩) (fun q hq => e0 _ (by omega) (by omega)) ?_ (fun v v6 v4 => ?_), fun i hi => ?_, ?_, fun q q1 q2 => ?_, fun p0 hy => ?_⟩
    · have b9 := b.2.2.2.2.2.2.2
      rw [z 1 (by omega) (by omega) (by omega), z 2 (by omega) (by omega) (by omega)] at b9
      unfold BW
      rw [y0, z2 1 (by omega) (by omega) (by omega) (by omega), z2 2 (by omega) (by omega) (by omega) (by omega), e4, a24, a48, a72, a96]
      have b3 := b.2.2.1
      have b6 := b.2.2.2.2.2.1 (by omega)
      exact ⟨by omega, b.2.1, by omega, b.2.2.2.1, fun q => absurd q (by decide), fun _ => b6, fun q => absurd q (by decide), b9⟩
    · by_cases v0 : v = 0
      · subst v0
        rw [y0, e0 _ (by omega) (by omega)]
      · by_cases v3 : v = 3
        · subst v3
          have a1 : shY T X l k 3 y = 0 := by unfold shY; rw [if_neg (by decide), z 3 (by omega) (by omega) (by omega)]
          have a2 : shY T X2 l k 3 y = dsS T X l k := by unfold shY; rw [if_neg (by decide), z3]
          rw [a1, a2, e3, Nat.add_zero]
        · have a1 : shY T X l k v y = 0 := by unfold shY; rw [if_neg v0, z v v6 v0 v4]
          have a2 : shY T X2 l k v y = 0 := by unfold shY; rw [if_neg v0, z2 v v6 v0 v4 v3]
          rw [a1, a2, e0 _ (by omega) (by omega)]
    · rw [e0 (480 + 60 * l + i) (by omega) (by omega)]
      have b2 := h2 i hi
      refine ⟨b2.1, fun q => ?_⟩
      by_cases e : i = k
      · subst e; rw [e4]; decide
      · rw [e0 _ (by omega) (by omega)]; exact b2.2 q
    · rw [e0 _ (by omega) (by omega), e0 _ (by omega) (by omega)]; exact h3
    · rw [e0 _ (by omega) (by omega), e0 _ (by omega) (by omega)]; exact h4 q q1 q2
    · have : ctS T X2 l 0 = ctS T X l 0 := fb_ct_cong (fun i hi => by
        by_cases e : i = k
        · subst e; rw [e4, hs1]; rfl
        · rw [e0 _ (by omega) (by omega)])
      rw [this]; exact h5 p0 hy
  · exact h
theorem la_all (hW : TW T) (hl : l < T 0) (h : LW T X l y c) : ∀ k, k ≤ T (12 + 7 * l) → LW T (laS T l y X k) l y c
  | 0, _ => h
  | k + 1, hk => la_step hW hl (by omega) (la_all hW hl h k (by omega))
theorem lq_ne {l l2 j : Nat} (h : l ≠ l2) (hl : l < 4) (h2 : l2 < 4) (hq : lq l j) : ¬ lq l2 j ∧ (j < 1200 ∨ 1206 < j) := by
  unfold lq at *
  omega
theorem yl_all (hW : TW T) (hy1 : 1 ≤ y) (hc : c + 1 ≤ 600) (hb : SB T X) (hX : X 1206 = y) (h : ∀ l, l < T 0 → LW T X l (y - 1) c) : ∀ n, n ≤ T 0 → SB T (yrL T y X n) ∧ yrL T y X n 1206 = y ∧ (∀ l, l < n → LW T (yrL T y X n) l y (c + 1)) ∧ ∀ l, n ≤ l → l < T 0 → LW T (yrL T y X n) l (y - 1) c
  | 0, _ => ⟨hb, hX, fun l hl => by omega, fun l _ hl => h l hl⟩
  | n + 1, hn => by
    obtain ⟨i1, i2, i3, i4⟩ := yl_all hW hy1 hc hb hX h n (by omega)
    have w0 := hW.1
    have j4 := i4 n (Nat.le_refl _) (by omega)
    have eL : yrL T y X (n + 1) = if y ≤ T (12 + 7 * n + 3) then lyS T n y (yrL T y X n) else yrL T y X n := rfl
    rw [eL]
    by_cases hy : y ≤ T (12 + 7 * n + 3)
    · rw [if_pos hy]
      obtain ⟨a1, a2, a3⟩ := ly_lw hW (by omega) i1 hy1 hy hc j4
      have cg : ∀ l, l ≠ n → l < 4 → ∀ j, lq l j → lyS T n y (yrL T y X n) j = yrL T y X n j := fun l hne l4 j hj => by
        have q := lq_ne hne l4 (by omega) hj
        exact a3 j q.1 (by omega)
      refine ⟨a2, ?_, fun l hl => ?_, fun l h1 h2 => (i4 l (by omega) h2).cong hW h2 (cg l (by omega) (by omega))⟩
      · rw [a3 1206 (by unfold lq; omega) (by omega)]; exact i2
      · by_cases e : l = n
        · subst e; exact a1
        · exact (i3 l (by omega)).cong hW (by omega) (cg l e (by omega))
    · rw [if_neg hy]
      refine ⟨i1, i2, fun l hl => ?_, fun l h1 h2 => i4 l (by omega) h2⟩
      by_cases e : l = n
      · subst e; exact j4.over hW (by omega) (by omega)
      · exact i3 l (by omega)
theorem yp_all (hW : TW T) (hb : SB T X) (hX : X 1206 = y) (h : ∀ l, l < T 0 → LW T X l y c) : ∀ n, n ≤ T 0 → SB T (yrP T y X n) ∧ yrP T y X n 1206 = y ∧ ∀ l, l < T 0 → LW T (yrP T y X n) l y c
  | 0, _ => ⟨hb, hX, h⟩
  | n + 1, hn => by
    obtain ⟨i1, i2, i3⟩ := yp_all hW hb hX h n (by omega)
    have w0 := hW.1
    have w := (hW.2.2 n (by omega)).2.1
    have eL : yrP T y X (n + 1) = laS T n y (yrP T y X n) (T (12 + 7 * n)) := rfl
    rw [eL]
    have a3 := la_out (T := T) (y := y) (X := yrP T y X n) (l := n) (by omega) (T (12 + 7 * n)) w
    refine ⟨la_sb hW (by omega) i1 _ (Nat.le_refl _), by rw [a3 1206 (by unfold lq; omega)]; exact i2, fun l hl => ?_⟩
    by_cases e : l = n
    · subst e; exact la_all hW hl (i3 l hl) _ (Nat.le_refl _)
    · exact (i3 l hl).cong hW hl (fun j hj => a3 j (lq_ne e (by omega) (by omega) hj).1)
end YR8
theorem yr_ok : YrOk := fun T S c hW hS hc hy => by
  have sb := hS.sb hW (by omega)
  generalize hyy : S 1206 + 1 = y
  have w0 := hW.1
  have l0 : ∀ l, l < T 0 → LW T (upS S 1206 y) l (y - 1) c := fun l hl => by
    have a := hS.lw hl
    rw [show S 1206 = y - 1 by omega] at a
    exact a.cong hW hl (fun j hj => upS_ne (by unfold lq at hj; omega))
  have sb0 : SB T (upS S 1206 y) := sb.up hW (by omega)
  have key := yl_all hW (by omega) hc sb0 upS_eq l0
  have kT := key (T 0) (Nat.le_refl _)
  have kp := yp_all hW kT.1 kT.2.1 kT.2.2.1
  refine ⟨fun l hl => ?_, fun l hl => (kp l hl).2.1, ?_⟩
  · have k := key l (by omega)
    have kl := k.2.2.2 l (Nat.le_refl _) hl
    have f := kl.2.2.1.2.2
    have c6 : 99999 * c ≤ 99999 * 600 := Nat.mul_le_mul_left _ (by omega)
    refine ⟨k.1, k.2.1, by omega, fun hy2 => ⟨kl.ri hW hl (by omega) hy2 (by omega), fun i hi => ⟨(kl.1.1 i hi).2.2.1, ?_⟩⟩⟩
    have := (kl.2.1 i hi).1
    omega
  · have k := kp (T 0) (Nat.le_refl _)
    refine SW.of (by rw [k.2.1]; omega) k.1.2.1 (fun l hl => ?_)
    rw [k.2.1]; exact k.2.2 l hl
