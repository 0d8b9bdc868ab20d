/-! year: what is so behind it is as it may be -/
def shY (T X : Nat → Nat) (l k w Y : Nat) : Nat := if w = 0 then T (12 + 7 * l + 2) * (if X (60 * l + k) = 0 then Y else X (480 + 60 * l + k)) else shS T X l k w
def BW (T X : Nat → Nat) (l k Y : Nat) : Prop := X (60 * l + k) ≤ 4 ∧ X (240 + 60 * l + k) ≤ T 1 ∧ (X (60 * l + k) = 0 ↔ X (480 + 60 * l + k) = 0) ∧ X (480 + 60 * l + k) ≤ T (12 + 7 * l + 3) ∧ (X (60 * l + k) = 0 → X (720 + 60 * l + k) = 0) ∧ (X (60 * l + k) ≠ 0 → 1 ≤ X (720 + 60 * l + k) ∧ X (720 + 60 * l + k) ≤ 60) ∧ (X (60 * l + k) = 3 → prS T X l (X (480 + 60 * l + k)) ≤ T (12 + 7 * l + 1)) ∧ X (960 + 60 * l + k) = shY T X l k 0 Y + shS T X l k 1 + shS T X l k 2
def MW (T X : Nat → Nat) (l : Nat) (Yf : Nat → Nat) : Prop := (∀ k, k < T (12 + 7 * l) → BW T X l k (Yf k)) ∧ ∀ w, w < 6 → w ≠ 4 → X (1383 + 6 * l + w) = fb_sm (fun k => shY T X l k w (Yf k)) (T (12 + 7 * l))
section YR6
variable {l y c : Nat} {T S X X2 : Nat → Nat} {Yf Yf2 : Nat → Nat}
theorem sh1_cong {k w : Nat} (hw : w ≠ 0) (h2 : X2 (60 * l + k) = X (60 * l + k)) (h3 : X2 (480 + 60 * l + k) = X (480 + 60 * l + k)) (h4 : X2 (720 + 60 * l + k) = X (720 + 60 * l + k)) (h5 : X2 (1215 + 21 * l + X (480 + 60 * l + k)) = X (1215 + 21 * l + X (480 + 60 * l + k))) : shS T X2 l k w = shS T X l k w := by
  have hp : prS T X2 l (X (480 + 60 * l + k)) = prS T X l (X (480 + 60 * l + k)) := by unfold prS; rw [h5]
  have hds : dsS T X2 l k = dsS T X l k := by unfold dsS; rw [h4]
  unfold shS
  split
  · exact absurd rfl hw
  · rw [h2, hds]
  · rw [h2, h3, hp]
  · rw [h2, hds]
  · rw [h2, hds]
  · rw [h2, h3, hp]
theorem shY_cong {k w Y : Nat} (h2 : X2 (60 * l + k) = X (60 * l + k)) (h3 : X2 (480 + 60 * l + k) = X (480 + 60 * l + k)) (h4 : X2 (720 + 60 * l + k) = X (720 + 60 * l + k)) (h5 : X2 (1215 + 21 * l + X (480 + 60 * l + k)) = X (1215 + 21 * l + X (480 + 60 * l + k))) : shY T X2 l k w Y = shY T X l k w Y := by
  unfold shY
  split
  · rw [h2, h3]
  · rename_i hw; exact sh1_cong hw h2 h3 h4 h5
/-- one bond changes -/
theorem MW.upd {K : Nat} (h : MW T X l Yf) (hK : K < T (12 + 7 * l)) (hYf : ∀ k, k ≠ K → Yf2 k = Yf k) (ho : ∀ k, k < T (12 + 7 * l) → k ≠ K → X2 (60 * l + k) = X (60 * l + k) ∧ X2 (240 + 60 * l + k) = X (240 + 60 * l + k) ∧ X2 (480 + 60 * l + k) = X (480 + 60 * l + k) ∧ X2 (720 + 60 * l + k) = X (720 + 60 * l + k) ∧ X2 (960 + 60 * l + k) = X (960 + 60 * l + k)) (hp : ∀ q, q ≤ T (12 + 7 * l + 3) → X2 (1215 + 21 * l + q) = X (1215 + 21 * l + q)) (hB : BW T X2 l K (Yf2 K)) (hw : ∀ w, w < 6 → w ≠ 4 → X2 (1383 + 6 * l + w) + shY T X l K w (Yf K) = X (1383 + 6 * l + w) + shY T X2 l K w (Yf2 K)) : MW T X2 l Yf2 := by
  have sh : ∀ k, k < T (12 + 7 * l) → k ≠ K → ∀ w, shY T X2 l k w (Yf2 k) = shY T X l k w (Yf k) := fun k hk hne w => by
    have a := ho k hk hne
    have b := (h.1 k hk).2.2.2.1
    rw [hYf k hne]
    exact shY_cong a.1 a.2.2.1 a.2.2.2.1 (hp _ b)
  have sh1 : ∀ k, k < T (12 + 7 * l) → k ≠ K → ∀ w, w ≠ 0 → shS T X2 l k w = shS T X l k w := fun k hk hne w hw0 => by
    have a := ho k hk hne
    have b := (h.1 k hk).2.2.2.1
    exact sh1_cong hw0 a.1 a.2.2.1 a.2.2.2.1 (hp _ b)
  refine ⟨fun k hk => ?_, fun w w6 w4 => ?_⟩
  · by_cases hne : k = K
    · rw [hne]; exact hB
    · have a := ho k hk hne
      have b := h.1 k hk
      unfold BW
      rw [a.1, a.2.1, a.2.2.1, a.2.2.2.1, a.2.2.2.2, sh k hk hne, sh1 k hk hne 1 (by omega), sh1 k hk hne 2 (by omega), prS_cong (hp _ b.2.2.2.1)]
      exact b
  · have e := h.2 w w6 w4
    have u := fb_sm_upd (fun k => shY T X l k w (Yf k)) (shY T X2 l K w (Yf2 K)) hK
    have cg : fb_sm (fun k => shY T X2 l k w (Yf2 k)) (T (12 + 7 * l)) = fb_sm (fun k => if k = K then shY T X2 l K w (Yf2 K) else shY T X l k w (Yf k)) (T (12 + 7 * l)) := fb_sm_cong (fun k hk => by
      by_cases hne : k = K
      · rw [if_pos hne, hne]
      · rw [if_neg hne]; exact sh k hk hne w)
    have h9 := hw w w6 w4
    rw [cg]
    omega
theorem sh_c0 {k w : Nat} (h0 : X (60 * l + k) = 0) (hw : w ≠ 0) : shS T X l k w = 0 := by
  unfold shS
  split
  · exact absurd rfl hw
  · rw [h0, if_neg (by decide)]
  · rw [h0, if_neg (by decide)]
  · rw [h0, if_neg (by decide)]
  · rw [h0, if_neg (by decide)]
  · rw [h0, if_neg (by decide)]
theorem in_step (hW : TW T) (hl : l < T 0) {k : Nat} (hk : k < T (12 + 7 * l)) (h1 : 1 ≤ y) (h : MW T X l (fun i => if i < k then y else y - 1)) : MW T (inS1 T l X k) l (fun i => if i < k + 1 then y else y - 1) := by
  have w0 := hW.1
  have w1 := hW.2.1
  have w := (hW.2.2 l hl).2.1
  have w20 := (hW.2.2 l hl).2.2.2.2.2.2.1
  have b := h.1 k hk
  have ho := b.2.1
  have hYf : ∀ i, i ≠ k → (if i < k + 1 then y else y - 1) = (if i < k then y else y - 1) := fun i hi => by
    by_cases h2 : i < k
    · rw [if_pos h2, if_pos (by omega)]
    · rw [if_neg h2, if_neg (by omega)]
  unfold inS1
  by_cases h0 : X (60 * l + k) = 0
  · rw [if_pos h0]
    generalize hX2 : upS (pyS (upS X (960 + 60 * l + k) (X (960 + 60 * l + k) + T (12 + 7 * l + 2))) (X (240 + 60 * l + k)) (T (12 + 7 * l + 2))) (1383 + 6 * l) (X (1383 + 6 * l) + T (12 + 7 * l + 2)) = X2
    have at0 : ∀ j, (j < 1200 ∨ 1206 ≤ j) → j ≠ 960 + 60 * l + k → j ≠ 1383 + 6 * l → X2 j = X j := fun j j1 j2 j3 => by rw [← hX2, upS_ne j3, pyS_at (by omega), upS_ne j2]
    have at9 : X2 (960 + 60 * l + k) = X (960 + 60 * l + k) + T (12 + 7 * l + 2) := by rw [← hX2, upS_ne (by omega), pyS_at (by omega), upS_eq]
    have at3 : X2 (1383 + 6 * l) = X (1383 + 6 * l) + T (12 + 7 * l + 2) := by rw [← hX2, upS_eq]
    clear hX2
    have c0 : X2 (60 * l + k) = X (60 * l + k) := at0 _ (by omega) (by omega) (by omega)
    have mul1 : T (12 + 7 * l + 2) * y = T (12 + 7 * l + 2) * (y - 1) + T (12 + 7 * l + 2) := by
      rw [← Nat.mul_succ, show (y - 1).succ = y by omega]
    have y0 : shY T X l k 0 (if k < k then y else y - 1) = T (12 + 7 * l + 2) * (y - 1) := by
      unfold shY
      rw [if_pos rfl, if_pos h0, if_neg (by omega)]
    have y2 : shY T X2 l k 0 (if k < k + 1 then y else y - 1) = T (12 + 7 * l + 2) * y := by
      unfold shY
      rw [if_pos rfl, c0, if_pos h0, if_pos (by omega)]
    refine h.upd hk hYf (fun i hi hne => ⟨at0 _ (by omega) (by omega) (by omega), at0 _ (by omega) (by omega) (by omega), at0 _ (by omega) (by omega) (by omega), at0 _ (by omega) (by omega) (by omega), at0 _ (by omega) (by omega) (by omega)⟩) (fun q hq => at0 _ (by omega) (by omega) (by omega)) ?_ (fun v v6 v4 => ?_)
    · have e24 : X2 (240 + 60 * l + k) = X (240 + 60 * l + k) := at0 _ (by omega) (by omega) (by omega)
      have e48 : X2 (480 + 60 * l + k) = X (480 + 60 * l + k) := at0 _ (by omega) (by omega) (by omega)
      have e72 : X2 (720 + 60 * l + k) = X (720 + 60 * l + k) := at0 _ (by omega) (by omega) (by omega)
      have hz2 : X2 (60 * l + k) = 0 := by rw [c0]; exact h0
      have b9 := b.2.2.2.2.2.2.2
      rw [y0, sh_c0 h0 (by omega), sh_c0 h0 (by omega)] at b9
      unfold BW
      rw [y2, sh_c0 hz2 (by omega), sh_c0 hz2 (by omega), at9, c0, e24, e48, e72]
      exact ⟨b.1, b.2.1, b.2.2.1, b.2.2.2.1, b.2.2.2.2.1, b.2.2.2.2.2.1, fun h3 => by rw [h0] at h3; exact absurd h3 (by decide), by omega⟩
    · by_cases hv : v = 0
      · subst hv
        rw [y0, y2, Nat.add_zero, at3]
        omega
      · have hz2 : X2 (60 * l + k) = 0 := by rw [c0]; exact h0
        have a1 : shY T X l k v (if k < k then y else y - 1) = 0 := by unfold shY; rw [if_neg hv, sh_c0 h0 hv]
        have a2 : shY T X2 l k v (if k < k + 1 then y else y - 1) = 0 := by unfold shY; rw [if_neg hv, sh_c0 hz2 hv]
        rw [a1, a2, at0 _ (by omega) (by omega) (by omega)]
  · rw [if_neg h0]
    have ye : ∀ v Y Y2, shY T X l k v Y = shY T X l k v Y2 := fun v Y Y2 => by
      unfold shY
      split
      · simp only [if_neg h0]
      · rfl
    refine h.upd hk hYf (fun i hi hne => ⟨rfl, rfl, rfl, rfl, rfl⟩) (fun q hq => rfl) ?_ (fun v v6 v4 => by rw [ye v _ (if k < k + 1 then y else y - 1)])
    unfold BW at b ⊢
    rw [ye 0 _ (if k < k then y else y - 1)]
    exact b
theorem in_all (hW : TW T) (hl : l < T 0) (h1 : 1 ≤ y) (h : MW T X l (fun _ => y - 1)) : ∀ k, k ≤ T (12 + 7 * l) → MW T (inS T l X k) l (fun i => if i < k then y else y - 1)
  | 0, _ => by
    have e : (fun i => if i < 0 then y else y - 1) = (fun _ => y - 1) := funext fun i => if_neg (by omega)
    rw [e]; exact h
  | k + 1, hk => in_step hW hl (by omega) h1 (in_all hW hl h1 h k (by omega))
theorem MW.yf (h : MW T X l Yf) (e : ∀ k, k < T (12 + 7 * l) → Yf2 k = Yf k) : MW T X l Yf2 := by
  refine ⟨fun k hk => by rw [e k hk]; exact h.1 k hk, fun w w6 w4 => ?_⟩
  rw [h.2 w w6 w4]
  exact fb_sm_cong (fun k hk => by rw [e k hk])
theorem MW.cong (h : MW T X l Yf) (ho : ∀ k, k < T (12 + 7 * l) → X2 (60 * l + k) = X (60 * l + k) ∧ X2 (240 + 60 * l + k) = X (240 + 60 * l + k) ∧ X2 (480 + 60 * l + k) = X (480 + 60 * l + k) ∧ X2 (720 + 60 * l + k) = X (720 + 60 * l + k) ∧ X2 (960 + 60 * l + k) = X (960 + 60 * l + k)) (hp : ∀ q, q ≤ T (12 + 7 * l + 3) → X2 (1215 + 21 * l + q) = X (1215 + 21 * l + q)) (hs : ∀ w, w < 6 → X2 (1383 + 6 * l + w) = X (1383 + 6 * l + w)) : MW T X2 l Yf := by
  have sh : ∀ k, k < T (12 + 7 * l) → ∀ w, shY T X2 l k w (Yf k) = shY T X l k w (Yf k) := fun k hk w => by
    have a := ho k hk
    exact shY_cong a.1 a.2.2.1 a.2.2.2.1 (hp _ (h.1 k hk).2.2.2.1)
  refine ⟨fun k hk => ?_, fun w w6 w4 => ?_⟩
  · have a := ho k hk
    have b := h.1 k hk
    unfold BW
    rw [a.1, a.2.1, a.2.2.1, a.2.2.2.1, a.2.2.2.2, sh k hk, sh1_cong (by omega) a.1 a.2.2.1 a.2.2.2.1 (hp _ b.2.2.2.1), sh1_cong (by omega) a.1 a.2.2.1 a.2.2.2.1 (hp _ b.2.2.2.1), prS_cong (hp _ b.2.2.2.1)]
    exact b
  · rw [hs w w6, h.2 w w6 w4]
    exact fb_sm_cong (fun k hk => (sh k hk w).symm)
/-- a draw -/
theorem re_step (hW : TW T) (hl : l < T 0) {K r bt cst : Nat} (hK : K < T (12 + 7 * l)) (hy1 : 1 ≤ y) (hy : y ≤ T (12 + 7 * l + 3)) (hr : 1 ≤ r) (hr6 : r ≤ 60) (h0 : X (60 * l + K) = 0) (hb : bt ≠ 0 → prS T X l y = cst ∧ cst ≤ T (12 + 7 * l + 1)) (h : MW T X l (fun _ => y)) : MW T (reS T l y bt cst X K r) l (fun _ => y) := by
  have w0 := hW.1
  have w1 := hW.2.1
  have w := (hW.2.2 l hl).2.1
  have w20 := (hW.2.2 l hl).2.2.2.2.2.2.1
  have b := h.1 K hK
  have ho := b.2.1
  have c1 := reS_c (T := T) (y := y) (r := r) (bt := bt) (cst := cst) (l := l) (X := X) (k := K) (by omega) (by omega) (by omega)
  have at0 : ∀ j, j ≠ 480 + 60 * l + K → j ≠ 720 + 60 * l + K → j ≠ 60 * l + K → (j < 960 ∨ 1206 ≤ j) → j ≠ 1383 + 6 * l + 2 → j ≠ 1383 + 6 * l + 5 → reS T l y bt cst X K r j = X j := fun j j1 j2 j3 j4 j5 j6 => reS_at (by omega) (by omega) (by omega) j1 j2 j3 j4 j5 j6
  have at9 : ∀ j, 960 ≤ j → j < 1200 → j ≠ 960 + 60 * l + K → reS T l y bt cst X K r j = X j := fun j j1 j2 j3 => by
    unfold reS
    split
    · rw [upS_ne (by omega), upS_ne (by omega), upS_ne (by omega)]
    · rw [upS_ne (by omega), upS_ne (by omega), pyS_at (by omega), upS_ne j3, upS_ne (by omega), upS_ne (by omega), upS_ne (by omega)]
  have a48 : reS T l y bt cst X K r (480 + 60 * l + K) = y := by
    unfold reS
    split
    · rw [upS_ne (by omega), upS_ne (by omega), upS_eq]
    · rw [upS_ne (by omega), upS_ne (by omega), pyS_at (by omega), upS_ne (by omega), upS_ne (by omega), upS_ne (by omega), upS_eq]
  have a72 : reS T l y bt cst X K r (720 + 60 * l + K) = r := by
    unfold reS
    split
    · rw [upS_ne (by omega), upS_eq]
    · rw [upS_ne (by omega), upS_ne (by omega), pyS_at (by omega), upS_ne (by omega), upS_ne (by omega), upS_eq]
  have a96 : reS T l y bt cst X K r (960 + 60 * l + K) = X (960 + 60 * l + K) + (if bt = 0 then 0 else cst) := by
    unfold reS
    by_cases hb0 : bt = 0
    · rw [if_pos hb0, if_pos hb0, upS_ne (by omega), upS_ne (by omega), upS_ne (by omega)]; rfl
    · rw [if_neg hb0, if_neg hb0, upS_ne (by omega), upS_ne (by omega), pyS_at (by omega), upS_eq]
  have s2 : reS T l y bt cst X K r (1383 + 6 * l + 2) = X (1383 + 6 * l + 2) + (if bt = 0 then 0 else cst) := by
    unfold reS
    by_cases hb0 : bt = 0
    · rw [if_pos hb0, if_pos hb0, upS_ne (by omega), upS_ne (by omega), upS_ne (by omega)]; rfl
    · rw [if_neg hb0, if_neg hb0, upS_ne (by omega), upS_eq]
  have s5 : reS T l y bt cst X K r (1383 + 6 * l + 5) = X (1383 + 6 * l + 5) + (if bt = 0 then 0 else T (12 + 7 * l + 1) - cst) := by
    unfold reS
    by_cases hb0 : bt = 0
    · rw [if_pos hb0, if_pos hb0, upS_ne (by omega), upS_ne (by omega), upS_ne (by omega)]; rfl
    · rw [if_neg hb0, if_neg hb0, upS_eq]
  generalize reS T l y bt cst X K r = X2 at *
  have pry : prS T X2 l y = prS T X l y := prS_cong (at0 _ (by omega) (by omega) (by omega) (by omega) (by omega) (by omega))
  have cne : X2 (60 * l + K) ≠ 0 := by rw [c1]; split <;> omega
  have y1 : shY T X l K 0 y = T (12 + 7 * l + 2) * y := by unfold shY; rw [if_pos rfl, if_pos h0]
  have y2 : shY T X2 l K 0 y = T (12 + 7 * l + 2) * y := by unfold shY; rw [if_pos rfl, if_neg cne, a48]
  have q1 : shS T X2 l K 1 = 0 := by
    show (if X2 (60 * l + K) = 2 then _ else 0) = 0
    rw [c1, if_neg (by split <;> omega)]
  have q2 : shS T X2 l K 2 = if bt = 0 then 0 else cst := by
    show (if X2 (60 * l + K) = 3 then prS T X2 l (X2 (480 + 60 * l + K)) else 0) = _
    rw [c1, a48]
    by_cases hb0 : bt = 0
    · rw [if_pos hb0, if_pos hb0, if_neg (by decide)]
    · rw [if_neg hb0, if_neg hb0, if_pos rfl, pry, (hb hb0).1]
  have q3 : shS T X2 l K 3 = 0 := by
    show (if X2 (60 * l + K) = 4 then _ else 0) = 0
    rw [c1, if_neg (by split <;> omega)]
  have q5 : shS T X2 l K 5 = if bt = 0 then 0 else T (12 + 7 * l + 1) - cst := by
    show (if X2 (60 * l + K) = 3 then T (12 + 7 * l + 1) - prS T X2 l (X2 (480 + 60 * l + K)) else 0) = _
    rw [c1, a48]
    by_cases hb0 : bt = 0
    · rw [if_pos hb0, if_pos hb0, if_neg (by decide)]
    · rw [if_neg hb0, if_neg hb0, if_pos rfl, pry, (hb hb0).1]
  refine h.upd hK (fun _ _ => rfl) (fun i hi hne => ⟨at0 _ (by omega) (by omega) (by omega) (by omega) (by omega) (by omega), at0 _ (by omega) (by omega) (by omega) (by omega) (by omega) (by omega), at0 _ (by omega) (by omega) (by omega) (by omega) (by omega) (by omega), at0 _ (by omega) (by omega) (by omega) (by omega) (by omega) (by omega), at9 _ (by omega) (by omega) (by omega)⟩) (fun q hq => at0 _ (by omega) (by omega) (by omega) (by omega) (by omega) (by omega)) ?_ (fun v v6 v4 => ?_)
  · have b9 := b.2.2.2.2.2.2.2
    rw [y1, sh_c0 h0 (by omega), sh_c0 h0 (by omega)] at b9
    have o24 : X2 (240 + 60 * l + K) = X (240 + 60 * l + K) := at0 _ (by omega) (by omega) (by omega) (by omega) (by omega) (by omega)
    unfold BW
    rw [y2, q1, q2, a96, a48, a72, o24]
    refine ⟨by rw [c1]; split <;> omega, b.2.1, ⟨fun q => absurd q cne, fun q => by omega⟩, hy, fun q => absurd q cne, fun _ => ⟨hr, hr6⟩, fun q => ?_, by omega⟩
    have hb0 : bt ≠ 0 := fun e => by rw [c1, if_pos e] at q; exact absurd q (by decide)
    rw [pry, (hb hb0).1]
    exact (hb hb0).2
  · obtain rfl | rfl | rfl | rfl | rfl : v = 0 ∨ v = 1 ∨ v = 2 ∨ v = 3 ∨ v = 5 := by omega
    · rw [y1, y2, at0 _ (by omega) (by omega) (by omega) (by omega) (by omega) (by omega)]
    · have a1 : shY T X l K 1 y = 0 := by unfold shY; rw [if_neg (by decide), sh_c0 h0 (by omega)]
      have a2 : shY T X2 l K 1 y = 0 := by unfold shY; rw [if_neg (by decide), q1]
      rw [a1, a2, at0 _ (by omega) (by omega) (by omega) (by omega) (by omega) (by omega)]
    · have a1 : shY T X l K 2 y = 0 := by unfold shY; rw [if_neg (by decide), sh_c0 h0 (by omega)]
      have a2 : shY T X2 l K 2 y = if bt = 0 then 0 else cst := by unfold shY; rw [if_neg (by decide), q2]
      rw [a1, a2, s2]; omega
    · have a1 : shY T X l K 3 y = 0 := by unfold shY; rw [if_neg (by decide), sh_c0 h0 (by omega)]
      have a2 : shY T X2 l K 3 y = 0 := by unfold shY; rw [if_neg (by decide), q3]
      rw [a1, a2, at0 _ (by omega) (by omega) (by omega) (by omega) (by omega) (by omega)]
    · have a1 : shY T X l K 5 y = 0 := by unfold shY; rw [if_neg (by decide), sh_c0 h0 (by omega)]
      have a2 : shY T X2 l K 5 y = if bt = 0 then 0 else T (12 + 7 * l + 1) - cst := by unfold shY; rw [if_neg (by decide), q5]
      rw [a1, a2, s5]; omega
end YR6
