/-! text: what is drafted, on both sides; l loans and g holders are whole, w and v say how much of the next one is told -/
def frL : List Nat := [1, 1, 0, 1, 0, 0, 1]
def frH : List Nat := [60, 999, 99, 20, 2, 99999, 20]
abbrev FR (j x : Nat) : Prop := frL.getD j 0 ≤ x ∧ x ≤ frH.getD j 0
def DW (T S : Td) (l w g v : Nat) : Prop := T 0 = l ∧ T 1 = g ∧ (l < 4 ∨ l = 4 ∧ w = 0) ∧ (g < 6 ∨ g = 6 ∧ v = 0) ∧
  (∀ k, k < l ∨ k = l ∧ 1 ≤ w → nmO (T (2 + k))) ∧
  (∀ k j, j < 7 → k < l ∨ k = l ∧ j + 2 ≤ w → FR j (T (12 + 7 * k + j))) ∧
  (∀ k, k < g ∨ k = g ∧ 1 ≤ v → nmO (T (6 + k))) ∧
  (∀ k, k < g ∨ k = g ∧ 2 ≤ v → S (1200 + k) ≤ 99999) ∧
  (∀ k, k < 240 → S (240 + k) ≤ g) ∧ (∀ k, k < 40 → T (40 + k) ≤ 9999) ∧ (∀ k, k < 84 → S (1215 + k) ≤ 999) ∧
  (∀ k, k < l → S (1207 + k) = k + 1) ∧
  (∀ k, k < 240 ∨ 480 ≤ k ∧ k < 1200 ∨ k = 1206 ∨ 1211 ≤ k ∧ k < 1215 ∨ 1299 ≤ k → S k = 0)
def CD (I : Im) (d : Nat) (T S : Td) (l w g v : Nat) : Prop := I d 0 = nI l ∧ I d 1 = nI g ∧
  (∀ k, k < l ∨ k = l ∧ 1 ≤ w → I (d + 1) k = nI (vcN 6 (T (2 + k)))) ∧
  (∀ k j, j < 7 → k < l ∨ k = l ∧ j + 2 ≤ w → I (d + (2 + j)) k = nI (T (12 + 7 * k + j))) ∧
  (∀ k, k < g ∨ k = g ∧ 1 ≤ v → I (d + 9) k = nI (vcN 6 (T (6 + k)))) ∧
  (∀ k, k < g ∨ k = g ∧ 2 ≤ v → I (d + 10) k = nI (S (1200 + k))) ∧
  (∀ k, k < 240 → I (d + 11) k = nI (S (240 + k)) - 1) ∧ (∀ k, k < 40 → I (d + 12) k = nI (T (40 + k))) ∧ (∀ k, k < 84 → I (d + 13) k = nI (S (1215 + k)))
section TY3
variable {T S : Td} {l w g v x j k q d : Nat} {I J : Im}
theorem DW.b (h : DW T S l w g v) : l ≤ 4 ∧ g ≤ 6 := by
  have a := h.2.2.1
  have b := h.2.2.2.1
  omega
theorem CD.of (h : CD I d T S l w g v) (e : ∀ b, d ≤ b → b < d + 14 → J b = I b) : CD J d T S l w g v := by
  obtain ⟨a1, a2, a3, a4, a5, a6, a7, a8, a9⟩ := h
  refine ⟨by rw [e d (by omega) (by omega)]; exact a1, by rw [e d (by omega) (by omega)]; exact a2, fun k hk => by rw [e (d + 1) (by omega) (by omega)]; exact a3 k hk, fun k j hj hk => by rw [e (d + (2 + j)) (by omega) (by omega)]; exact a4 k j hj hk, fun k hk => by rw [e (d + 9) (by omega) (by omega)]; exact a5 k hk, fun k hk => by rw [e (d + 10) (by omega) (by omega)]; exact a6 k hk, fun k hk => by rw [e (d + 11) (by omega) (by omega)]; exact a7 k hk, fun k hk => by rw [e (d + 12) (by omega) (by omega)]; exact a8 k hk, fun k hk => by rw [e (d + 13) (by omega) (by omega)]; exact a9 k hk⟩
/-! a loan's name -/
theorem DW.nam (h : DW T S l 0 g v) (hl : l < 4) (hx : nmO x) : DW (upN T (2 + l) x) S l 1 g v := by
  obtain ⟨a1, a2, a3, a4, a5, a6, a7, a8, a9, a10, a11, a12, a13⟩ := h
  refine ⟨by rw [upN_o (by omega)]; exact a1, by rw [upN_o (by omega)]; exact a2, Or.inl hl, a4, fun k hk => ?_, fun k j hj hk => ?_, fun k hk => ?_, a8, a9, fun k hk => ?_, a11, a12, a13⟩
  · by_cases e : k = l
    · rw [e, upN_s]; exact hx
    · rw [upN_o (by omega)]; exact a5 k (by omega)
  · rw [upN_o (by omega)]; exact a6 k j hj (by omega)
  · rw [upN_o (by omega)]; exact a7 k hk
  · rw [upN_o (by omega)]; exact a10 k hk
theorem CD.nam (h : CD I d T S l 0 g v) (hl : l < 4) (hx : I (d + 1) l = nI (vcN 6 x)) : CD I d (upN T (2 + l) x) S l 1 g v := by
  obtain ⟨a1, a2, a3, a4, a5, a6, a7, a8, a9⟩ := h
  refine ⟨a1, a2, fun k hk => ?_, fun k j hj hk => ?_, fun k hk => ?_, a6, a7, fun k hk => ?_, a9⟩
  · by_cases e : k = l
    · rw [e, upN_s]; exact hx
    · rw [upN_o (by omega)]; exact a3 k (by omega)
  · rw [upN_o (by omega)]; exact a4 k j hj (by omega)
  · rw [upN_o (by omega)]; exact a5 k hk
  · rw [upN_o (by omega)]; exact a8 k hk
/-! a loan's number -/
theorem DW.fld (h : DW T S l (j + 1) g v) (hl : l < 4) (hj : j < 7) (hx : FR j x) : DW (upN T (12 + 7 * l + j) x) S l (j + 2) g v := by
  obtain ⟨a1, a2, a3, a4, a5, a6, a7, a8, a9, a10, a11, a12, a13⟩ := h
  refine ⟨by rw [upN_o (by omega)]; exact a1, by rw [upN_o (by omega)]; exact a2, Or.inl hl, a4, fun k hk => ?_, fun k i hi hk => ?_, fun k hk => ?_, a8, a9, fun k hk => ?_, a11, a12, a13⟩
  · rw [upN_o (by omega)]; exact a5 k (by omega)
  · by_cases e : k = l ∧ i = j
    · rw [e.1, e.2, upN_s]; exact hx
    · rw [upN_o (by omega)]; exact a6 k i hi (by omega)
  · rw [upN_o (by omega)]; exact a7 k hk
  · rw [upN_o (by omega)]; exact a10 k hk
theorem CD.fld (h : CD I d T S l (j + 1) g v) (hg : g < 6 ∨ g = 6 ∧ v = 0) (hl : l < 4) (hj : j < 7) (hx : I (d + (2 + j)) l = nI x) : CD I d (upN T (12 + 7 * l + j) x) S l (j + 2) g v := by
  obtain ⟨a1, a2, a3, a4, a5, a6, a7, a8, a9⟩ := h
  refine ⟨a1, a2, fun k hk => ?_, fun k i hi hk => ?_, fun k hk => ?_, a6, a7, fun k hk => ?_, a9⟩
  · rw [upN_o (by omega)]; exact a3 k (by omega)
  · by_cases e : k = l ∧ i = j
    · rw [e.1, e.2, upN_s]; exact hx
    · rw [upN_o (by omega)]; exact a4 k i hi (by omega)
  · rw [upN_o (by omega)]; exact a5 k hk
  · rw [upN_o (by omega)]; exact a8 k hk
/-! a loan is whole -/
theorem DW.lon (h : DW T S l 8 g v) (hl : l < 4) : DW (upN T 0 (l + 1)) (upN S (1207 + l) (l + 1)) (l + 1) 0 g v := by
  obtain ⟨a1, a2, a3, a4, a5, a6, a7, a8, a9, a10, a11, a12, a13⟩ := h
  refine ⟨upN_s, by rw [upN_o (by omega)]; exact a2, by omega, a4, fun k hk => ?_, fun k i hi hk => ?_, fun k hk => ?_, fun k hk => ?_, fun k hk => ?_, fun k hk => ?_, fun k hk => ?_, fun k hk => ?_, fun k hk => ?_⟩
  · rw [upN_o (by omega)]; exact a5 k (by omega)
  · rw [upN_o (by omega)]; exact a6 k i hi (by omega)
  · rw [upN_o (by omega)]; exact a7 k hk
  · rw [upN_o (by omega)]; exact a8 k hk
  · rw [upN_o (by omega)]; exact a9 k hk
  · rw [upN_o (by omega)]; exact a10 k hk
  · rw [upN_o (by omega)]; exact a11 k hk
  · by_cases e : k = l
    · rw [e, upN_s]
    · rw [upN_o (by omega)]; exact a12 k (by omega)
  · rw [upN_o (by omega)]; exact a13 k hk
theorem CD.lon (h : CD I d T S l 8 g v) (hg : g < 6 ∨ g = 6 ∧ v = 0) (hl : l < 4) (e0 : J d 0 = nI (l + 1)) (e1 : J d 1 = I d 1) (e : ∀ b, d < b → b < d + 14 → J b = I b) : CD J d (upN T 0 (l + 1)) (upN S (1207 + l) (l + 1)) (l + 1) 0 g v := by
  obtain ⟨a1, a2, a3, a4, a5, a6, a7, a8, a9⟩ := h
  refine ⟨e0, by rw [e1]; exact a2, fun k hk => ?_, fun k i hi hk => ?_, fun k hk => ?_, fun k hk => ?_, fun k hk => ?_, fun k hk => ?_, fun k hk => ?_⟩
  · rw [upN_o (by omega), e (d + 1) (by omega) (by omega)]; exact a3 k (by omega)
  · rw [upN_o (by omega), e (d + (2 + i)) (by omega) (by omega)]; exact a4 k i hi (by omega)
  · rw [upN_o (by omega), e (d + 9) (by omega) (by omega)]; exact a5 k hk
  · rw [upN_o (by omega), e (d + 10) (by omega) (by omega)]; exact a6 k hk
  · rw [upN_o (by omega), e (d + 11) (by omega) (by omega)]; exact a7 k hk
  · rw [upN_o (by omega), e (d + 12) (by omega) (by omega)]; exact a8 k hk
  · rw [upN_o (by omega), e (d + 13) (by omega) (by omega)]; exact a9 k hk
/-! a holder's name, its cash, a holder is whole -/
theorem DW.hnm (h : DW T S l 0 g 0) (hg : g < 6) (hx : nmO x) : DW (upN T (6 + g) x) S l 0 g 1 := by
  obtain ⟨a1, a2, a3, a4, a5, a6, a7, a8, a9, a10, a11, a12, a13⟩ := h
  refine ⟨by rw [upN_o (by omega)]; exact a1, by rw [upN_o (by omega)]; exact a2, a3, Or.inl hg, fun k hk => ?_, fun k j hj hk => ?_, fun k hk => ?_, fun k hk => a8 k (by omega), a9, fun k hk => ?_, a11, a12, a13⟩
  · rw [upN_o (by omega)]; exact a5 k hk
  · rw [upN_o (by omega)]; exact a6 k j hj hk
  · by_cases e : k = g
    · rw [e, upN_s]; exact hx
    · rw [upN_o (by omega)]; exact a7 k (by omega)
  · rw [upN_o (by omega)]; exact a10 k hk
theorem CD.hnm (h : CD I d T S l 0 g 0) (hl : l ≤ 4) (hg : g < 6) (hx : I (d + 9) g = nI (vcN 6 x)) : CD I d (upN T (6 + g) x) S l 0 g 1 := by
  obtain ⟨a1, a2, a3, a4, a5, a6, a7, a8, a9⟩ := h
  refine ⟨a1, a2, fun k hk => ?_, fun k j hj hk => ?_, fun k hk => ?_, fun k hk => a6 k (by omega), a7, fun k hk => ?_, a9⟩
  · rw [upN_o (by omega)]; exact a3 k hk
  · rw [upN_o (by omega)]; exact a4 k j hj hk
  · by_cases e : k = g
    · rw [e, upN_s]; exact hx
    · rw [upN_o (by omega)]; exact a5 k (by omega)
  · rw [upN_o (by omega)]; exact a8 k hk
theorem DW.csh (h : DW T S l 0 g 1) (hg : g < 6) (hx : x ≤ 99999) : DW T (upN S (1200 + g) x) l 0 g 2 := by
  obtain ⟨a1, a2, a3, a4, a5, a6, a7, a8, a9, a10, a11, a12, a13⟩ := h
  refine ⟨a1, a2, a3, Or.inl hg, a5, a6, fun k hk => a7 k (by omega), fun k hk => ?_, fun k hk => ?_, a10, fun k hk => ?_, fun k hk => ?_, fun k hk => ?_⟩
  · by_cases e : k = g
    · rw [e, upN_s]; exact hx
    · rw [upN_o (by omega)]; exact a8 k (by omega)
  · rw [upN_o (by omega)]; exact a9 k hk
  · rw [upN_o (by omega)]; exact a11 k hk
  · rw [upN_o (by omega)]; exact a12 k hk
  · rw [upN_o (by omega)]; exact a13 k hk
theorem CD.csh (h : CD I d T S l 0 g 1) (hg : g < 6) (hx : I (d + 10) g = nI x) : CD I d T (upN S (1200 + g) x) l 0 g 2 := by
  obtain ⟨a1, a2, a3, a4, a5, a6, a7, a8, a9⟩ := h
  refine ⟨a1, a2, a3, a4, fun k hk => a5 k (by omega), fun k hk => ?_, fun k hk => ?_, a8, fun k hk => ?_⟩
  · by_cases e : k = g
    · rw [e, upN_s]; exact hx
    · rw [upN_o (by omega)]; exact a6 k (by omega)
  · rw [upN_o (by omega)]; exact a7 k hk
  · rw [upN_o (by omega)]; exact a9 k hk
theorem DW.hol (h : DW T S l 0 g 2) (hg : g < 6) : DW (upN T 1 (g + 1)) S l 0 (g + 1) 0 := by
  obtain ⟨a1, a2, a3, a4, a5, a6, a7, a8, a9, a10, a11, a12, a13⟩ := h
  refine ⟨by rw [upN_o (by omega)]; exact a1, upN_s, a3, by omega, fun k hk => ?_, fun k j hj hk => ?_, fun k hk => ?_, fun k hk => a8 k (by omega), fun k hk => Nat.le_succ_of_le (a9 k hk), fun k hk => ?_, a11, a12, a13⟩
  · rw [upN_o (by omega)]; exact a5 k hk
  · rw [upN_o (by omega)]; exact a6 k j hj hk
  · rw [upN_o (by omega)]; exact a7 k (by omega)
  · rw [upN_o (by omega)]; exact a10 k hk
theorem CD.hol (h : CD I d T S l 0 g 2) (hg : g < 6) (e0 : J d 0 = I d 0) (e1 : J d 1 = nI (g + 1)) (e : ∀ b, d < b → b < d + 14 → J b = I b) : CD J d (upN T 1 (g + 1)) S l 0 (g + 1) 0 := by
  obtain ⟨a1, a2, a3, a4, a5, a6, a7, a8, a9⟩ := h
  refine ⟨by rw [e0]; exact a1, e1, fun k hk => ?_, fun k i hi hk => ?_, fun k hk => ?_, fun k hk => ?_, fun k hk => ?_, fun k hk => ?_, fun k hk => ?_⟩
  · rw [upN_o (by omega), e (d + 1) (by omega) (by omega)]; exact a3 k hk
  · rw [upN_o (by omega), e (d + (2 + i)) (by omega) (by omega)]; exact a4 k i hi hk
  · rw [upN_o (by omega), e (d + 9) (by omega) (by omega)]; exact a5 k (by omega)
  · rw [e (d + 10) (by omega) (by omega)]; exact a6 k (by omega)
  · rw [e (d + 11) (by omega) (by omega)]; exact a7 k hk
  · rw [upN_o (by omega), e (d + 12) (by omega) (by omega)]; exact a8 k hk
  · rw [e (d + 13) (by omega) (by omega)]; exact a9 k hk
/-! a prize, a price -/
theorem DW.prz (h : DW T S l 0 g 0) (hq : q < 40) (hx : x ≤ 9999) : DW (upN T (40 + q) x) S l 0 g 0 := by
  have hb := h.b
  obtain ⟨a1, a2, a3, a4, a5, a6, a7, a8, a9, a10, a11, a12, a13⟩ := h
  refine ⟨by rw [upN_o (by omega)]; exact a1, by rw [upN_o (by omega)]; exact a2, a3, a4, fun k hk => ?_, fun k j hj hk => ?_, fun k hk => ?_, a8, a9, fun k hk => ?_, a11, a12, a13⟩
  · rw [upN_o (by omega)]; exact a5 k hk
  · rw [upN_o (by omega)]; exact a6 k j hj hk
  · rw [upN_o (by omega)]; exact a7 k hk
  · by_cases e : k = q
    · rw [e, upN_s]; exact hx
    · rw [upN_o (by omega)]; exact a10 k hk
theorem CD.prz (h : CD I d T S l 0 g 0) (hb : l ≤ 4 ∧ g ≤ 6) (hq : q < 40) (e1 : J (d + 12) q = nI x) (e2 : ∀ k, k ≠ q → J (d + 12) k = I (d + 12) k) (e : ∀ b, d ≤ b → b < d + 14 → b ≠ d + 12 → J b = I b) : CD J d (upN T (40 + q) x) S l 0 g 0 := by
  obtain ⟨a1, a2, a3, a4, a5, a6, a7, a8, a9⟩ := h
  refine ⟨by rw [e d (by omega) (by omega) (by omega)]; exact a1, by rw [e d (by omega) (by omega) (by omega)]; exact a2, fun k hk => ?_, fun k i hi hk => ?_, fun k hk => ?_, fun k hk => ?_, fun k hk => ?_, fun k hk => ?_, fun k hk => ?_⟩
  · rw [upN_o (by omega), e (d + 1) (by omega) (by omega) (by omega)]; exact a3 k hk
  · rw [upN_o (by omega), e (d + (2 + i)) (by omega) (by omega) (by omega)]; exact a4 k i hi hk
  · rw [upN_o (by omega), e (d + 9) (by omega) (by omega) (by omega)]; exact a5 k hk
  · rw [e (d + 10) (by omega) (by omega) (by omega)]; exact a6 k hk
  · rw [e (d + 11) (by omega) (by omega) (by omega)]; exact a7 k hk
  · by_cases z : k = q
    · rw [z, upN_s]; exact e1
    · rw [upN_o (by omega), e2 k z]; exact a8 k hk
  · rw [e (d + 13) (by omega) (by omega) (by omega)]; exact a9 k hk
theorem DW.prc (h : DW T S l 0 g 0) (hq : q < 84) (hx : x ≤ 999) : DW T (upN S (1215 + q) x) l 0 g 0 := by
  have hb := h.b
  obtain ⟨a1, a2, a3, a4, a5, a6, a7, a8, a9, a10, a11, a12, a13⟩ := h
  refine ⟨a1, a2, a3, a4, a5, a6, a7, fun k hk => ?_, fun k hk => ?_, a10, fun k hk => ?_, fun k hk => ?_, fun k hk => ?_⟩
  · rw [upN_o (by omega)]; exact a8 k hk
  · rw [upN_o (by omega)]; exact a9 k hk
  · by_cases e : k = q
    · rw [e, upN_s]; exact hx
    · rw [upN_o (by omega)]; exact a11 k hk
  · rw [upN_o (by omega)]; exact a12 k hk
  · rw [upN_o (by omega)]; exact a13 k hk
theorem CD.prc (h : CD I d T S l 0 g 0) (hb : l ≤ 4 ∧ g ≤ 6) (hq : q < 84) (e1 : J (d + 13) q = nI x) (e2 : ∀ k, k ≠ q → J (d + 13) k = I (d + 13) k) (e : ∀ b, d ≤ b → b < d + 14 → b ≠ d + 13 → J b = I b) : CD J d T (upN S (1215 + q) x) l 0 g 0 := by
  obtain ⟨a1, a2, a3, a4, a5, a6, a7, a8, a9⟩ := h
  refine ⟨by rw [e d (by omega) (by omega) (by omega)]; exact a1, by rw [e d (by omega) (by omega) (by omega)]; exact a2, fun k hk => ?_, fun k i hi hk => ?_, fun k hk => ?_, fun k hk => ?_, fun k hk => ?_, fun k hk => ?_, fun k hk => ?_⟩
  · rw [e (d + 1) (by omega) (by omega) (by omega)]; exact a3 k hk
  · rw [e (d + (2 + i)) (by omega) (by omega) (by omega)]; exact a4 k i hi hk
  · rw [e (d + 9) (by omega) (by omega) (by omega)]; exact a5 k hk
  · rw [upN_o (by omega), e (d + 10) (by omega) (by omega) (by omega)]; exact a6 k hk
  · rw [upN_o (by omega), e (d + 11) (by omega) (by omega) (by omega)]; exact a7 k hk
  · rw [e (d + 12) (by omega) (by omega) (by omega)]; exact a8 k hk
  · by_cases z : k = q
    · rw [z, upN_s]; exact e1
    · rw [upN_o (by omega), e2 k z]; exact a9 k hk
/-! one number more is held -/
theorem DW.hld (h : DW T S l 0 g 0) (hq : q < 240) (hx : x ≤ g) : DW T (upN S (240 + q) x) l 0 g 0 := by
  have hb := h.b
  obtain ⟨a1, a2, a3, a4, a5, a6, a7, a8, a9, a10, a11, a12, a13⟩ := h
  refine ⟨a1, a2, a3, a4, a5, a6, a7, fun k hk => ?_, fun k hk => ?_, a10, fun k hk => ?_, fun k hk => ?_, fun k hk => ?_⟩
  · rw [upN_o (by omega)]; exact a8 k hk
  · by_cases e : k = q
    · rw [e, upN_s]; exact hx
    · rw [upN_o (by omega)]; exact a9 k hk
  · rw [upN_o (by omega)]; exact a11 k hk
  · rw [upN_o (by omega)]; exact a12 k hk
  · rw [upN_o (by omega)]; exact a13 k hk
theorem CD.hld (h : CD I d T S l 0 g 0) (hb : l ≤ 4 ∧ g ≤ 6) (hq : q < 240) (e1 : J (d + 11) q = nI x - 1) (e2 : ∀ k, k ≠ q → J (d + 11) k = I (d + 11) k) (e : ∀ b, d ≤ b → b < d + 14 → b ≠ d + 11 → J b = I b) : CD J d T (upN S (240 + q) x) l 0 g 0 := by
  obtain ⟨a1, a2, a3, a4, a5, a6, a7, a8, a9⟩ := h
  refine ⟨by rw [e d (by omega) (by omega) (by omega)]; exact a1, by rw [e d (by omega) (by omega) (by omega)]; exact a2, fun k hk => ?_, fun k i hi hk => ?_, fun k hk => ?_, fun k hk => ?_, fun k hk => ?_, fun k hk => ?_, fun k hk => ?_⟩
  · rw [e (d + 1) (by omega) (by omega) (by omega)]; exact a3 k hk
  · rw [e (d + (2 + i)) (by omega) (by omega) (by omega)]; exact a4 k i hi hk
  · rw [e (d + 9) (by omega) (by omega) (by omega)]; exact a5 k hk
  · rw [upN_o (by omega), e (d + 10) (by omega) (by omega) (by omega)]; exact a6 k hk
  · by_cases z : k = q
    · rw [z, upN_s]; exact e1
    · rw [upN_o (by omega), e2 k z]; exact a7 k hk
  · rw [e (d + 12) (by omega) (by omega) (by omega)]; exact a8 k hk
  · rw [upN_o (by omega), e (d + 13) (by omega) (by omega) (by omega)]; exact a9 k hk
/-- a cell that isn't told yet may be written -/
theorem CD.junk (h : CD I d T S l w g v) (hJ : ∀ b i, d ≤ b → b < d + 14 → ¬ (b = d + q ∧ i = k) → J b i = I b i) (hq : 1 ≤ q ∧ q < 11) (hs : q = 1 ∧ l ≤ k ∧ (l < k ∨ w = 0) ∨ 2 ≤ q ∧ q < 9 ∧ l ≤ k ∧ (l < k ∨ w < q) ∨ q = 9 ∧ g ≤ k ∧ (g < k ∨ v = 0) ∨ q = 10 ∧ g ≤ k ∧ (g < k ∨ v < 2)) : CD J d T S l w g v := by
  obtain ⟨a1, a2, a3, a4, a5, a6, a7, a8, a9⟩ := h
  refine ⟨by rw [hJ d 0 (by omega) (by omega) (by omega)]; exact a1, by rw [hJ d 1 (by omega) (by omega) (by omega)]; exact a2, fun i hi => ?_, fun i j hj hi => ?_, fun i hi => ?_, fun i hi => ?_, fun i hi => ?_, fun i hi => ?_, fun i hi => ?_⟩
  · rw [hJ (d + 1) i (by omega) (by omega) (by omega)]; exact a3 i hi
  · rw [hJ (d + (2 + j)) i (by omega) (by omega) (by omega)]; exact a4 i j hj hi
  · rw [hJ (d + 9) i (by omega) (by omega) (by omega)]; exact a5 i hi
  · rw [hJ (d + 10) i (by omega) (by omega) (by omega)]; exact a6 i hi
  · rw [hJ (d + 11) i (by omega) (by omega) (by omega)]; exact a7 i hi
  · rw [hJ (d + 12) i (by omega) (by omega) (by omega)]; exact a8 i hi
  · rw [hJ (d + 13) i (by omega) (by omega) (by omega)]; exact a9 i hi
end TY3
