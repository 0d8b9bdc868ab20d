def lq (l j : Nat) : Prop := (60 * l ≤ j ∧ j < 60 * l + 60) ∨ (240 + 60 * l ≤ j ∧ j < 240 + 60 * l + 60) ∨ (480 + 60 * l ≤ j ∧ j < 480 + 60 * l + 60) ∨ (720 + 60 * l ≤ j ∧ j < 720 + 60 * l + 60) ∨ (960 + 60 * l ≤ j ∧ j < 960 + 60 * l + 60) ∨ j = 1207 + l ∨ j = 1211 + l ∨ (1215 + 21 * l ≤ j ∧ j < 1215 + 21 * l + 21) ∨ (1299 + 21 * l ≤ j ∧ j < 1299 + 21 * l + 21) ∨ (1383 + 6 * l ≤ j ∧ j < 1383 + 6 * l + 6)
/-- a loan is as it may be when Y years have passed -/
def LW (T X : Nat → Nat) (l Y c : Nat) : Prop := MW T X l (fun _ => Y) ∧ (∀ k, k < T (12 + 7 * l) → X (480 + 60 * l + k) ≤ Y ∧ (T (12 + 7 * l + 3) ≤ Y → X (60 * l + k) ≠ 0)) ∧ (1 ≤ X (1207 + l) ∧ X (1207 + l) ≤ 2147483646 ∧ X (1211 + l) ≤ 99999 * c) ∧ (∀ q, 1 ≤ q → q ≤ T (12 + 7 * l + 3) → X (1215 + 21 * l + q) ≤ 999 ∧ (q ≤ Y → 1 ≤ X (1299 + 21 * l + q) ∧ X (1299 + 21 * l + q) ≤ 2147483646)) ∧ (T (12 + 7 * l + 4) = 0 → Y < T (12 + 7 * l + 3) → ctS T X l 0 + T (12 + 7 * l) * Y / T (12 + 7 * l + 3) = T (12 + 7 * l))
section YR7
variable {l y c : Nat} {T S X X2 : Nat → Nat}
theorem LW.cong {Y : Nat} (hW : TW T) (hl : l < T 0) (h : LW T X l Y c) (e : ∀ j, lq l j → X2 j = X j) : LW T X2 l Y c := by
  have w := (hW.2.2 l hl).2.1
  have w20 := (hW.2.2 l hl).2.2.2.2.2.2.1
  obtain ⟨h1, h2, h3, h4, h5⟩ := h
  have e1 : ∀ k, k < T (12 + 7 * l) → X2 (60 * l + k) = X (60 * l + k) := fun k hk => e _ (by unfold lq; omega)
  have e3 : ∀ k, k < T (12 + 7 * l) → X2 (480 + 60 * l + k) = X (480 + 60 * l + k) := fun k hk => e _ (by unfold lq; omega)
  refine ⟨h1.cong (fun k hk => ⟨e1 k hk, e _ (by unfold lq; omega), e3 k hk, e _ (by unfold lq; omega), e _ (by unfold lq; omega)⟩) (fun q hq => e _ (by unfold lq; omega)) (fun v v6 => e _ (by unfold lq; omega)), fun k hk => by rw [e1 k hk, e3 k hk]; exact h2 k hk, by rw [e (1207 + l) (by unfold lq; omega), e (1211 + l) (by unfold lq; omega)]; exact h3, fun q q1 q2 => by rw [e (1215 + 21 * l + q) (by unfold lq; omega), e (1299 + 21 * l + q) (by unfold lq; omega)]; exact h4 q q1 q2, fun p0 hy => ?_⟩
  have : ctS T X2 l 0 = ctS T X l 0 := fb_ct_cong (fun k hk => by rw [e1 k hk])
  rw [this]; exact h5 p0 hy
theorem shY_0 {k : Nat} : shY T S l k 0 (S 1206) = shS T S l k 0 := rfl
theorem SW.lw (h : SW T S c) (hl : l < T 0) : LW T S l (S 1206) c := by
  obtain ⟨h1, h2, h3, h4, h5, h6, h7⟩ := h
  refine ⟨⟨fun k hk => ?_, fun v v6 v4 => ?_⟩, fun k hk => ⟨(h5 l hl k hk).2.2.2.1, (h5 l hl k hk).2.2.2.2.2.2.2.1⟩, h3 l hl, h4 l hl, h7 l hl⟩
  · have b := h5 l hl k hk
    exact ⟨b.1, b.2.1, b.2.2.1, b.2.2.2.2.1, b.2.2.2.2.2.1, b.2.2.2.2.2.2.1, b.2.2.2.2.2.2.2.2.1, b.2.2.2.2.2.2.2.2.2⟩
  · rw [h6 l hl v v6 v4]
    refine fb_sm_cong (fun k hk => ?_)
    by_cases hv : v = 0
    · subst hv; rfl
    · unfold shY; rw [if_neg hv]
theorem SW.of (h1 : S 1206 ≤ 60) (h2 : ∀ h, h < T 1 → S (1200 + h) ≤ 1000000000) (h : ∀ l, l < T 0 → LW T S l (S 1206) c) : SW T S c := by
  refine ⟨h1, h2, fun l hl => (h l hl).2.2.1, fun l hl => (h l hl).2.2.2.1, fun l hl k hk => ?_, fun l hl v v6 v4 => ?_, fun l hl => (h l hl).2.2.2.2⟩
  · have a := (h l hl).1.1 k hk
    have b := (h l hl).2.1 k hk
    exact ⟨a.1, a.2.1, a.2.2.1, b.1, a.2.2.2.1, a.2.2.2.2.1, a.2.2.2.2.2.1, b.2, a.2.2.2.2.2.2.1, a.2.2.2.2.2.2.2⟩
  · rw [(h l hl).1.2 v v6 v4]
    refine fb_sm_cong (fun k hk => ?_)
    by_cases hv : v = 0
    · subst hv; rfl
    · unfold shY; rw [if_neg hv]
/-- where draws of a loan change nothing -/
theorem dr_out (hW : TW T) (hl : l < T 0) (h : SB T X) (hy : y ≤ 60) {bt cst st : Nat} (h0 : fb_ct (stnd X l) (T (12 + 7 * l)) = st) (h60 : st ≤ 60) : ∀ r, r ≤ st → ∀ j, (¬ (60 * l ≤ j ∧ j < 60 * l + 60)) → (¬ (480 + 60 * l ≤ j ∧ j < 480 + 60 * l + 60)) → (¬ (720 + 60 * l ≤ j ∧ j < 720 + 60 * l + 60)) → (¬ (960 + 60 * l ≤ j ∧ j < 960 + 60 * l + 60)) → (j < 1200 ∨ 1206 ≤ j) → j ≠ 1207 + l → (¬ (1383 + 6 * l ≤ j ∧ j < 1383 + 6 * l + 6)) → drS T l y bt cst X r j = X j
  | 0, _, _, _, _, _, _, _, _, _ => rfl
  | r + 1, hr, j, j1, j2, j3, j4, j5, j6, j7 => by
    have ih := dr_out hW hl h hy (bt := bt) (cst := cst) h0 h60 r (by omega) j j1 j2 j3 j4 j5 j6 j7
    obtain ⟨i1, i2, i3, i4⟩ := drS_all (y := y) (bt := bt) (cst := cst) hW hl h hy h0 h60 r (by omega)
    have w0 := hW.1
    have w1 := hW.2.1
    have w := (hW.2.2 l hl).2.1
    have L0 : 0 < fb_ct (stnd (drS T l y bt cst X r) l) (T (12 + 7 * l)) := by omega
    have hm := Nat.mod_lt (tuS (drS T l y bt cst X r (1207 + l))) L0
    obtain ⟨k1, k2, k3⟩ := kt_spec hm
    show drS1 T l y bt cst (drS T l y bt cst X r) (r + 1) j = X j
    unfold drS1
    generalize kt (stnd (drS T l y bt cst X r) l) (T (12 + 7 * l)) (tuS (drS T l y bt cst X r (1207 + l)) % fb_ct (stnd (drS T l y bt cst X r) l) (T (12 + 7 * l))) = K at *
    have ho := (i1.2.2.2.2 l hl K k1).2.1
    rw [← ih]
    unfold reS
    rw [upS_ne (k := 240 + 60 * l + K) (j := 1207 + l) (by omega)]
    split
    · rw [upS_ne (by omega), upS_ne (by omega), upS_ne (by omega), upS_ne (by omega)]
    · rw [upS_ne (by omega), upS_ne (by omega), pyS_at (by omega), upS_ne (by omega), upS_ne (by omega), upS_ne (by omega), upS_ne (by omega), upS_ne (by omega)]
theorem dr_mw (hW : TW T) (hl : l < T 0) (h : SB T X) (hy1 : 1 ≤ y) (hy : y ≤ T (12 + 7 * l + 3)) {bt cst st : Nat} (h0 : fb_ct (stnd X l) (T (12 + 7 * l)) = st) (h60 : st ≤ 60) (hb : bt ≠ 0 → prS T X l y = cst ∧ cst ≤ T (12 + 7 * l + 1)) (hm0 : MW T X l (fun _ => y)) (hr0 : ∀ k, k < T (12 + 7 * l) → X (480 + 60 * l + k) ≤ y) (hw0 : 1 ≤ X (1207 + l)) : ∀ r, r ≤ st → MW T (drS T l y bt cst X r) l (fun _ => y) ∧ (∀ k, k < T (12 + 7 * l) → drS T l y bt cst X r (480 + 60 * l + k) ≤ y) ∧ 1 ≤ drS T l y bt cst X r (1207 + l)
  | 0, _ => ⟨hm0, hr0, hw0⟩
  | r + 1, hr => by
    obtain ⟨m1, m2, m3⟩ := dr_mw hW hl h hy1 hy (bt := bt) (cst := cst) h0 h60 hb hm0 hr0 hw0 r (by omega)
    have w20 := (hW.2.2 l hl).2.2.2.2.2.2.1
    obtain ⟨i1, i2, i3, i4⟩ := drS_all (y := y) (bt := bt) (cst := cst) hW hl h (by omega) h0 h60 r (by omega)
    have w0 := hW.1
    have w1 := hW.2.1
    have w := (hW.2.2 l hl).2.1
    have wb := (i1.2.2.1 l hl).1
    have L0 : 0 < fb_ct (stnd (drS T l y bt cst X r) l) (T (12 + 7 * l)) := by omega
    obtain ⟨g1, g2, g3, g4⟩ := drS1_st (y := y) (r := r + 1) (bt := bt) (cst := cst) hW hl i1 L0
    have pc : prS T (drS T l y bt cst X r) l y = prS T X l y := prS_cong (dr_out hW hl h (by omega) h0 h60 r (by omega) _ (by omega) (by omega) (by omega) (by omega) (by omega) (by omega) (by omega))
    have hm := Nat.mod_lt (tuS (drS T l y bt cst X r (1207 + l))) L0
    obtain ⟨k1, k2, k3⟩ := kt_spec hm
    have eS : drS T l y bt cst X (r + 1) = drS1 T l y bt cst (drS T l y bt cst X r) (r + 1) := rfl
    refine ⟨?_, ?_, by rw [eS, g3]; exact tuS_pos m3 wb⟩
    · rw [eS]
      unfold drS1
      generalize kt (stnd (drS T l y bt cst X r) l) (T (12 + 7 * l)) (tuS (drS T l y bt cst X r (1207 + l)) % fb_ct (stnd (drS T l y bt cst X r) l) (T (12 + 7 * l))) = K at *
      have kz : drS T l y bt cst X r (60 * l + K) = 0 := of_decide_eq_true k2
      refine re_step hW hl k1 hy1 hy (by omega) (by omega) (by rw [upS_ne (by omega)]; exact kz) (fun hb0 => ?_) (m1.cong (fun k hk => ⟨upS_ne (by omega), upS_ne (by omega), upS_ne (by omega), upS_ne (by omega), upS_ne (by omega)⟩) (fun q hq => upS_ne (by omega)) (fun v v6 => upS_ne (by omega)))
      rw [prS_cong (upS_ne (by omega)), pc]
      exact hb hb0
    · intro k hk
      rw [eS]
      unfold drS1
      generalize kt (stnd (drS T l y bt cst X r) l) (T (12 + 7 * l)) (tuS (drS T l y bt cst X r (1207 + l)) % fb_ct (stnd (drS T l y bt cst X r) l) (T (12 + 7 * l))) = K at *
      have ho := (i1.2.2.2.2 l hl K k1).2.1
      by_cases e : k = K
      · subst e
        unfold reS
        split
        · rw [upS_ne (by omega), upS_ne (by omega), upS_eq]; exact Nat.le_refl _
        · rw [upS_ne (by omega), upS_ne (by omega), pyS_at (by rw [upS_ne (by omega)]; omega), upS_ne (by omega), upS_ne (by omega), upS_ne (by omega), upS_eq]; exact Nat.le_refl _
      · rw [reS_at (by omega) (by omega) (by rw [upS_ne (by omega)]; omega) (by omega) (by omega) (by omega) (by omega) (by omega) (by omega), upS_ne (by omega)]
        exact m2 k hk
theorem LW.ri (hW : TW T) (hl : l < T 0) (hy1 : 1 ≤ y) (hy : y ≤ T (12 + 7 * l + 3)) (hc : c ≤ 600) (h : LW T X l (y - 1) c) : RI T l y (ctS T X l 0) (X (1211 + l)) := by
  refine ⟨fb_ct_le _ _, ?_, fun p0 => h.2.2.2.2 p0 (by omega)⟩
  have := h.2.2.1.2.2
  have h2 : 99999 * c ≤ 99999 * 600 := Nat.mul_le_mul_left _ hc
  omega
theorem ly_lw (hW : TW T) (hl : l < T 0) (hb : SB T X) (hy1 : 1 ≤ y) (hy : y ≤ T (12 + 7 * l + 3)) (hc : c + 1 ≤ 600) (h : LW T X l (y - 1) c) : LW T (lyS T l y X) l y (c + 1) ∧ SB T (lyS T l y X) ∧ ∀ j, ¬ lq l j → (j < 1200 ∨ 1206 ≤ j) → lyS T l y X j = X j := by
  have w0 := hW.1
  have w1 := hW.2.1
  have wl := hW.2.2 l hl
  have w := wl.2.1
  have w20 := wl.2.2.2.2.2.2.1
  have ri := h.ri hW hl hy1 hy (by omega)
  have du := ri.du (p := prS T X l y) hW hl hy
  have cx : ctS T X l 0 ≤ 60 := Nat.le_trans (fb_ct_le _ _) w
  have ho : ∀ i, i < T (12 + 7 * l) → X (240 + 60 * l + i) ≤ 6 := fun i hi => Nat.le_trans (hb.2.2.2.2 l hl i hi).2.1 w1
  have at0 : ∀ j, (j < 960 ∨ 1206 ≤ j) → j ≠ 1383 + 6 * l → inS T l X (T (12 + 7 * l)) j = X j := fun j h1 h2 => inS_at (by omega) w ho h1 h2
  have at1 : ∀ k, k ≤ T (12 + 7 * l) → ∀ j, (¬ (960 + 60 * l ≤ j ∧ j < 960 + 60 * l + 60)) → (j < 1200 ∨ 1206 ≤ j) → j ≠ 1383 + 6 * l → inS T l X k j = X j := fun k => by
    induction k with
    | zero => intro _ j _ _ _; rfl
    | succ k ih =>
      intro hk j j1 j2 j3
      have e := ih (by omega) j j1 j2 j3
      have o := inS_at (T := T) (l := l) (X := X) (by omega) (k := k) (j := 240 + 60 * l + k) (by omega) (fun i hi => ho i (by omega)) (by omega) (by omega)
      have o6 := ho k (by omega)
      show inS1 T l (inS T l X k) k j = X j
      unfold inS1
      split
      · rw [upS_ne j3, pyS_at (by omega), upS_ne (by omega)]; exact e
      · exact e
  have h3 := h.2.2.1
  have fl := fu_le (y := y) hW hl (p := prS T X l y) (s := ctS T X l 0) (f := X (1211 + l))
  have c6 : 99999 * c ≤ 99999 * 600 := Nat.mul_le_mul_left _ (by omega)
  have hbM : SB T (lyM T l y X) := by
    unfold lyM
    exact ((inS_sb hW hl hb _ (Nat.le_refl _)).up hW (by omega)).up hW (by omega)
  have sct : fb_ct (stnd (lyM T l y X) l) (T (12 + 7 * l)) = ctS T X l 0 := fb_ct_cong (inS_st (by omega) w ho)
  have mI : MW T (inS T l X (T (12 + 7 * l))) l (fun _ => y) := (in_all hW hl hy1 h.1 _ (Nat.le_refl _)).yf (fun k hk => by rw [if_pos hk])
  have mM : MW T (lyM T l y X) l (fun _ => y) := by
    unfold lyM
    exact mI.cong (fun k hk => ⟨by rw [upS_ne (by omega), upS_ne (by omega)], by rw [upS_ne (by omega), upS_ne (by omega)], by rw [upS_ne (by omega), upS_ne (by omega)], by rw [upS_ne (by omega), upS_ne (by omega)], by rw [upS_ne (by omega), upS_ne (by omega)]⟩) (fun q hq => by rw [upS_ne (by omega), upS_ne (by omega)]) (fun v v6 => by rw [upS_ne (by omega), upS_ne (by omega)])
  have lm : ∀ j, (¬ (960 + 60 * l ≤ j ∧ j < 960 + 60 * l + 60)) → (j < 1200 ∨ 1206 ≤ j) → j ≠ 1383 + 6 * l → j ≠ 1211 + l → j ≠ 1299 + 21 * l + y → lyM T l y X j = X j := fun j j1 j2 j3 j4 j5 => by
    unfold lyM
    rw [upS_ne j5, upS_ne j4, at1 _ (Nat.le_refl _) j j1 j2 j3]
  have pm : prS T (lyM T l y X) l y = prS T X l y := prS_cong (lm _ (by omega) (by omega) (by omega) (by omega) (by omega))
  have hbt : bgR T l (prS T X l y) y ≠ 0 → prS T (lyM T l y X) l y = csR T l (prS T X l y) y ∧ csR T l (prS T X l y) y ≤ T (12 + 7 * l + 1) := fun hne => by
    rw [pm]
    unfold bgR at hne
    unfold csR
    split at hne
    · rename_i hh
      rw [if_pos hh]; exact ⟨rfl, by omega⟩
    · exact absurd rfl hne
  have da := drS_all (y := y) (bt := bgR T l (prS T X l y) y) (cst := csR T l (prS T X l y) y) hW hl hbM (by omega) sct cx (lyD T l y X) du
  have dm := dr_mw (bt := bgR T l (prS T X l y) y) (cst := csR T l (prS T X l y) y) hW hl hbM hy1 hy sct cx hbt mM (fun k hk => by rw [lm _ (by omega) (by omega) (by omega) (by omega) (by omega)]; have := (h.2.1 k hk).1; omega) (by rw [lm _ (by omega) (by omega) (by omega) (by omega) (by omega)]; exact h3.1) (lyD T l y X) du
  have dout := dr_out (y := y) (bt := bgR T l (prS T X l y) y) (cst := csR T l (prS T X l y) y) hW hl hbM (by omega) sct cx (lyD T l y X) du
  have eL : lyS T l y X = drS T l y (bgR T l (prS T X l y) y) (csR T l (prS T X l y) y) (lyM T l y X) (lyD T l y X) := rfl
  rw [← eL] at da dm dout
  have f1 : lyS T l y X (1211 + l) = fuR T l (prS T X l y) y (ctS T X l 0) (X (1211 + l)) := by
    rw [da.2.2.2]
    unfold lyM
    rw [upS_ne (by omega), upS_eq]
  have eD : lyD T l y X = duR T l (prS T X l y) y (ctS T X l 0) (X (1211 + l)) := rfl
  refine ⟨⟨dm.1, fun k hk => ⟨dm.2.1 k hk, fun hlast => ?_⟩, ⟨dm.2.2, (da.1.2.2.1 l hl).1, by rw [f1]; omega⟩, fun q q1 q2 => ?_, fun p0 hlt => ?_⟩, da.1, fun j j1 j2 => ?_⟩
  · have hd : lyD T l y X = ctS T X l 0 := by rw [eD]; unfold duR; rw [if_pos (by omega)]
    have z := da.2.1
    rw [hd, Nat.sub_self] at z
    exact of_decide_eq_false (fb_ct_zero.mp z k hk)
  · have h4 := h.2.2.2.1 q q1 q2
    rw [dout (1215 + 21 * l + q) (by omega) (by omega) (by omega) (by omega) (by omega) (by omega) (by omega), lm _ (by omega) (by omega) (by omega) (by omega) (by omega), dout (1299 + 21 * l + q) (by omega) (by omega) (by omega) (by omega) (by omega) (by omega) (by omega)]
    refine ⟨h4.1, fun hq => ?_⟩
    by_cases e : q = y
    · subst e
      unfold lyM
      rw [upS_eq]
      exact ⟨h3.1, h3.2.1⟩
    · rw [lm _ (by omega) (by omega) (by omega) (by omega) (by omega)]
      exact h4.2 (by omega)
  · have nx := (ri.next (p := prS T X l y) hW hl hy1 hlt).2.2 p0
    rw [Nat.add_sub_cancel] at nx
    have z : ctS T (lyS T l y X) l 0 = ctS T X l 0 - lyD T l y X := da.2.1
    rw [z, eD]; exact nx
  · unfold lq at j1
    rw [dout j (by omega) (by omega) (by omega) (by omega) (by omega) (by omega) (by omega), lm j (by omega) (by omega) (by omega) (by omega) (by omega)]
theorem LW.over (hW : TW T) (hl : l < T 0) (hlt : T (12 + 7 * l + 3) < y) (h : LW T X l (y - 1) c) : LW T X l y (c + 1) := by
  obtain ⟨h1, h2, h3, h4, h5⟩ := h
  have ne : ∀ k, k < T (12 + 7 * l) → X (60 * l + k) ≠ 0 := fun k hk => (h2 k hk).2 (by omega)
  have ye : ∀ k, k < T (12 + 7 * l) → ∀ v, shY T X l k v y = shY T X l k v (y - 1) := fun k hk v => by
    unfold shY
    split
    · rw [if_neg (ne k hk), if_neg (ne k hk)]
    · rfl
  refine ⟨⟨fun k hk => ?_, fun v v6 v4 => ?_⟩, fun k hk => ⟨by have := (h2 k hk).1; omega, fun _ => ne k hk⟩, ⟨h3.1, h3.2.1, by omega⟩, fun q q1 q2 => ⟨(h4 q q1 q2).1, fun _ => (h4 q q1 q2).2 (by omega)⟩, fun _ hlt2 => by omega⟩
  · have b := h1.1 k hk
    unfold BW at b ⊢
    rw [ye k hk]; exact b
  · rw [h1.2 v v6 v4]
    exact fb_sm_cong (fun k hk => (ye k hk v).symm)
end YR7
