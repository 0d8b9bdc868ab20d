/-- a year of one loan -/
def lyD (T : Nat → Nat) (l y : Nat) (X : Nat → Nat) : Nat := duR T l (prS T X l y) y (ctS T X l 0) (X (1211 + l))
def lyM (T : Nat → Nat) (l y : Nat) (X : Nat → Nat) : Nat → Nat := upS (upS (inS T l X (T (12 + 7 * l))) (1211 + l) (fuR T l (prS T X l y) y (ctS T X l 0) (X (1211 + l)))) (1299 + 21 * l + y) (X (1207 + l))
def lyS (T : Nat → Nat) (l y : Nat) (X : Nat → Nat) : Nat → Nat := drS T l y (bgR T l (prS T X l y) y) (csR T l (prS T X l y) y) (lyM T l y X) (lyD T l y X)
section YR4
variable {B t c l y : Nat} {T S X Z : Nat → Nat} {M N Q : Mm} {P : Nat → Prop}
theorem pyS_sb (hW : TW T) (h : SB T X) {g p : Nat} (hg : g ≤ T 1) : SB T (pyS X g p) := by
  have w1 := hW.2.1
  unfold pyS
  split
  · exact h
  · exact h.up hW (by omega)
theorem inS_sb (hW : TW T) (hl : l < T 0) (h : SB T X) : ∀ k, k ≤ T (12 + 7 * l) → SB T (inS T l X k)
  | 0, _ => h
  | k + 1, hk => by
    have ih := inS_sb hW hl h k (by omega)
    have w0 := hW.1
    have w := (hW.2.2 l hl).2.1
    have ho := (ih.2.2.2.2 l hl k (by omega)).2.1
    show SB T (inS1 T l (inS T l X k) k)
    unfold inS1
    split
    · exact (pyS_sb hW (ih.up hW (by omega)) ho).up hW (by omega)
    · exact ih
theorem reS_sb (hW : TW T) (hl : l < T 0) (h : SB T X) {k r bt cst : Nat} (hk : k < T (12 + 7 * l)) (hy : y ≤ 60) (hr : r ≤ 60) : SB T (reS T l y bt cst X k r) := by
  have w0 := hW.1
  have w := (hW.2.2 l hl).2.1
  have ho := (h.2.2.2.2 l hl k hk).2.1
  unfold reS
  split
  · exact ((h.up hW (by omega)).up hW (by omega)).up hW (by omega)
  · exact ((pyS_sb hW ((((h.up hW (by omega)).up hW (by omega)).up hW (by omega)).up hW (by omega)) ho).up hW (by omega)).up hW (by omega)
theorem drS_all (hW : TW T) (hl : l < T 0) (h : SB T X) (hy : y ≤ 60) {bt cst st : Nat} (h0 : fb_ct (stnd X l) (T (12 + 7 * l)) = st) (h60 : st ≤ 60) : ∀ r, r ≤ st → SB T (drS T l y bt cst X r) ∧ fb_ct (stnd (drS T l y bt cst X r) l) (T (12 + 7 * l)) = st - r ∧ drS T l y bt cst X r 1206 = X 1206 ∧ drS T l y bt cst X r (1211 + l) = X (1211 + l)
  | 0, _ => ⟨h, h0, rfl, rfl⟩
  | r + 1, hr => by
    obtain ⟨i1, i2, i3, i4⟩ := drS_all hW hl h hy (bt := bt) (cst := cst) h0 h60 r (by omega)
    have w0 := hW.1
    have L0 : 0 < fb_ct (stnd (drS T l y bt cst X r) l) (T (12 + 7 * l)) := by omega
    obtain ⟨g1, g2, g3, g4⟩ := drS1_st (y := y) (r := r + 1) (bt := bt) (cst := cst) hW hl i1 L0
    have hm := Nat.mod_lt (tuS (drS T l y bt cst X r (1207 + l))) L0
    obtain ⟨k1, k2, k3⟩ := kt_spec hm
    have eS : drS T l y bt cst X (r + 1) = drS1 T l y bt cst (drS T l y bt cst X r) (r + 1) := rfl
    have tl := tuS_le (drS T l y bt cst X r (1207 + l))
    refine ⟨?_, ?_, by rw [eS, g2, i3], by rw [eS, g4, i4]⟩
    · rw [eS]
      unfold drS1
      exact reS_sb hW hl (i1.up hW (by omega)) k1 hy (by omega)
    · rw [eS, fb_ct_cong g1, rmv_ct k2 k1, i2]; omega
theorem stnd_ct : fb_ct (stnd X l) (T (12 + 7 * l)) = ctS T X l 0 := rfl
theorem inS_st (hl4 : l < 4) (h60 : T (12 + 7 * l) ≤ 60) (ho : ∀ i, i < T (12 + 7 * l) → X (240 + 60 * l + i) ≤ 6) : ∀ k, k < T (12 + 7 * l) → stnd (lyM T l y X) l k = stnd X l k := fun k hk => by
  unfold stnd lyM
  rw [upS_ne (by omega), upS_ne (by omega), inS_at hl4 h60 ho (by omega) (by omega)]
def KY (B : Nat) (M N : Mm) : Prop := N.2 = M.2 ∧ (∀ a, a ≠ B + 59 → a ≠ B + 63 → a ≠ B + 68 → N.1 a = M.1 a) ∧ ∀ j, j < 19 ∨ 22 < j → N.1 (B + 59) j = M.1 (B + 59) j
theorem KY.tr (h : KY B M N) (g : KY B N Q) : KY B M Q := ⟨g.1.trans h.1, fun a h1 h2 h3 => (g.2.1 a h1 h2 h3).trans (h.2.1 a h1 h2 h3), fun j hj => (g.2.2 j hj).trans (h.2.2 j hj)⟩
theorem KQ.ky (h : KQ B M N) : KY B M N := ⟨h.1, fun a _ h2 _ => h.2 a h2, fun j _ => by rw [h.2 _ (by omega)]⟩
theorem KT.ky (h : KT B M N) : KY B M N := ⟨h.1, fun a h1 _ h3 => h.2.1 a h1 h3, h.2.2⟩
theorem fu_le (hW : TW T) (hl : l < T 0) {p s f : Nat} : fuR T l p y s f ≤ f + 99999 := by
  have w := hW.2.2 l hl
  unfold fuR
  split
  · omega
  · split <;> omega
theorem v_loanYear (hR : RV B M T X) (hf8 : X (1211 + l) ≤ 80000000) (hl : l < T 0) (hX : X 1206 = y) (h1 : 1 ≤ y) (hy : y ≤ T (12 + 7 * l + 3)) (hi : RI T l y (ctS T X l 0) (X (1211 + l))) : ∃ N, f_X8_loanYear (B + 59) (nI l) M = some (nI (lyD T l y X), N) ∧ RV B N T (lyS T l y X) ∧ KY B M N := by
  have hW := hR.2.2.2.1
  have w := (hW.2.2 l hl).2.1
  have w20 := (hW.2.2 l hl).2.2.2.2.2.2.1
  have wp := (hW.2.2 l hl).2.2.1
  have wp2 := (hW.2.2 l hl).2.2.2.1
  have w0 := hW.1
  have w1 := hW.2.1
  have ho : ∀ i, i < T (12 + 7 * l) → X (240 + 60 * l + i) ≤ 6 := fun i hi => Nat.le_trans (hR.2.2.2.2.2.2.2.2 l hl i hi).2.1 w1
  have at0 : ∀ j, (j < 960 ∨ 1206 ≤ j) → j ≠ 1383 + 6 * l → inS T l X (T (12 + 7 * l)) j = X j := fun j h1 h2 => inS_at (by omega) w ho h1 h2
  have cx : ctS T X l 0 ≤ 60 := Nat.le_trans (fb_ct_le _ _) w
  have du := hi.du (p := prS T X l y) hW hl hy
  have sy := hR.2.2.1 1206 (by omega)
  rw [hX] at sy
  have hm := v_howMany hR hl (st := 0) (by omega)
  obtain ⟨N0, e0, r0, q0⟩ := v_int_lp (B := B) (X := X) hl (T (12 + 7 * l)) 0 FU M (nI y) (nI (ctS T X l 0)) (by omega) (by unfold FU; omega) hR
  obtain ⟨m, hF⟩ : ∃ m, FU - T (12 + 7 * l) = m + 1 := ⟨FU - T (12 + 7 * l) - 1, by unfold FU; omega⟩
  rw [hF, show (0 : Nat) + 1 = 1 by omega] at e0
  obtain ⟨k, rfl⟩ : ∃ k, y = k + 1 := ⟨y - 1, by omega⟩
  have pf := v_priceOf r0 hl (k := k) (by omega)
  rw [prS_cong (at0 _ (by omega) (by omega))] at pf
  have pv := hR.2.2.2.2.2.2.2.1 l hl (k + 1) (by omega) hy
  have pr1 : 1 ≤ prS T X l (k + 1) ∧ prS T X l (k + 1) ≤ 999 := by unfold prS; split <;> omega
  obtain ⟨N1, e1, t1, t2, t3, t4, t5, t6⟩ := v_stay (p := prS T X l (k + 1)) r0 hl h1 hy hi pr1.1 pr1.2
  have cs := csR_rng (y := k + 1) hW hl pr1.1 pr1.2
  have bg : bgR T l (prS T X l (k + 1)) (k + 1) ≤ 1 := bgR_le
  have cpar : csR T l (prS T X l (k + 1)) (k + 1) ≤ T (12 + 7 * l + 1) := by unfold csR; split <;> omega
  have r1 : RV B N1 T (inS T l X (T (12 + 7 * l))) := r0.kp (by rw [t1.1]) (t1.2.1 _ (by omega) (by omega)) (t1.2.1 _ (by omega) (by omega))
  have fub : fuR T l (prS T X l (k + 1)) (k + 1) (ctS T X l 0) (X (1211 + l)) ≤ 90000000 := by
    have := fu_le (y := k + 1) hW hl (p := prS T X l (k + 1)) (s := ctS T X l 0) (f := X (1211 + l))
    omega
  have f0 := r0.2.2.1 (1211 + l) (by omega)
  rw [at0 _ (by omega) (by omega)] at f0
  have hV1 := r1.s (j := 1211 + l) (v := fuR T l (prS T X l (k + 1)) (k + 1) (ctS T X l 0) (X (1211 + l))) (r1.2.2.2.2.up hW (by omega))
  have wv := hV1.2.2.1 (1207 + l) (by omega)
  rw [upS_ne (by omega), at0 _ (by omega) (by omega)] at wv
  have hV2 := hV1.s (j := 1299 + 21 * l + (k + 1)) (v := X (1207 + l)) (hV1.2.2.2.2.up hW (by omega))
  have sct : fb_ct (stnd (lyM T l (k + 1) X) l) (T (12 + 7 * l)) = ctS T X l 0 := fb_ct_cong (inS_st (by omega) w ho)
  have kq2 : KQ B N1 (sI (sI N1 (B + 63) (1211 + l) (nI (fuR T l (prS T X l (k + 1)) (k + 1) (ctS T X l 0) (X (1211 + l))))) (B + 63) (1299 + 21 * l + (k + 1)) (nI (X (1207 + l)))) := KQ.s.tr KQ.s
  obtain ⟨N2, e2, r2, q2⟩ := v_draw_lp (B := B) (y := k + 1) (X := lyM T l (k + 1) X) hl (bt := bgR T l (prS T X l (k + 1)) (k + 1)) (cst := csR T l (prS T X l (k + 1)) (k + 1)) (due := duR T l (prS T X l (k + 1)) (k + 1) (ctS T X l 0) (X (1211 + l))) (st := ctS T X l 0) (by omega) bg cpar du cx (duR T l (prS T X l (k + 1)) (k + 1) (ctS T X l 0) (X (1211 + l))) 0 FU (sI (sI N1 (B + 63) (1211 + l) (nI (fuR T l (prS T X l (k + 1)) (k + 1) (ctS T X l 0) (X (1211 + l))))) (B + 63) (1299 + 21 * l + (k + 1)) (nI (X (1207 + l)))) (by omega) (by unfold FU; omega) hV2 (by rw [kq2.2 _ (by omega)]; exact t4) (by rw [kq2.2 _ (by omega)]; exact t5) (by rw [Nat.sub_zero]; exact sct) (by
    show lyM T l (k + 1) X 1206 = k + 1
    unfold lyM
    rw [upS_ne (by omega), upS_ne (by omega), at0 _ (by omega) (by omega), hX])
  rw [show (0 : Nat) + 1 = 1 by omega, Nat.sub_zero] at e2
  refine ⟨N2, ?_, r2, ((q0.ky.tr t1.ky).tr kq2.ky).tr q2.ky⟩
  have hD : RfD B M.2.2 := hR.1
  have hD0 : RfD B N0.2.2 := r0.1
  have hD1 : RfD B N1.2.2 := r1.1
  have st1 : f_X8_loanYear (B + 59) (nI l) M = f_X8_loanYear_19 (m + 1) (B + 59) (nI l) (nI (k + 1)) (nI (ctS T X l 0)) (nI (T (12 + 7 * l) + 1)) N0 := by
    rw [← e0]
    simp (disch := omega) only [f_X8_loanYear, reduceIte, ↓reduceIte, ↓ck_i, ↓nm_s, ↓bR_i, ↓bd_i, Option.isSome_some, Option.getD_some, gK, gR, gN, gIs, inb_nI, and_self, nI_clamp, fa_lit, pk_mul, nI_add, n10, n1z, n00, eq_self, not_true_eq_false, not_false_eq_true, hD.a, sy, hm]
  rw [st1]
  have lo := v_loanOf r0 hl (w := 0) (by omega)
  have eb : T (12 + 7 * l) < T (12 + 7 * l) + 1 := by omega
  have e2' : f_X8_loanYear_188 FU (B + 59) (nI l) (nI (ctS T X l 0)) (nI (duR T l (prS T X l (k + 1)) (k + 1) (ctS T X l 0) (X (1211 + l)))) (nI 1) (sI (sI N1 (B + 63) (1211 + l) (nI (fuR T l (prS T X l (k + 1)) (k + 1) (ctS T X l 0) (X (1211 + l))))) (B + 63) (1299 + 21 * l + (k + 1)) (nI (X (1207 + l)))) = some (nI (lyD T l (k + 1) X), N2) := e2
  rw [← e2']
  simp (disch := omega) only [f_X8_loanYear_19, reduceIte, ↓reduceIte, ↓ck_i, ↓nm_s, ↓bR_i, ↓bd_i, Option.isSome_some, Option.getD_some, gK, gR, gN, gIs, inb_nI, and_self, nI_clamp, fa_lit, pk_mul, nI_add, n10, n1z, n00, eq_self, not_true_eq_false, not_false_eq_true, hD0.a, lo, Nat.add_zero, nI_ltI, eb, f0, pf, e1, hD1.a, t6, sI_sh, wv]
theorem w_passYear (hQ : CV B t M T Z) (hT : t + 14 ≤ B + 15 ∨ B + 25 ≤ t) (ht : t + 14 ≤ B + 44) (hB : t ≠ B) (hf8 : X (1211 + l) ≤ 80000000) (hZ : ag cP Z X) (hbX : SB T X) (hl : l < T 0) (hy1 : Z 1206 + 1 = y) (hy : y ≤ T (12 + 7 * l + 3)) (hi : RI T l y (ctS T X l 0) (X (1211 + l))) (hst : ∀ k, k < T (12 + 7 * l) → (X (60 * l + k) = 0 ↔ X (480 + 60 * l + k) = 0) ∧ X (480 + 60 * l + k) < y) : ∃ N Z2, f_X7_passYear B (nI l) (nI y) M = some (nI (lyD T l y X), N) ∧ CV B t N T Z2 ∧ ag cP Z2 (lyS T l y X) ∧ Z2 1206 = Z 1206 ∧ (N.2 = M.2 ∧ ∀ a, (a < B + 15 ∨ B + 25 ≤ a) → (a < B + 44 ∨ B + 59 ≤ a) → N.1 a = M.1 a) := by
  have hW := hQ.2.2.2.2.1
  have w := (hW.2.2 l hl).2.1
  have w20 := (hW.2.2 l hl).2.2.2.2.2.2.1
  have wp := (hW.2.2 l hl).2.2.1
  have wp2 := (hW.2.2 l hl).2.2.2.1
  have w0 := hW.1
  have w1 := hW.2.1
  have ho : ∀ i, i < T (12 + 7 * l) → X (240 + 60 * l + i) ≤ 6 := fun i hi => Nat.le_trans (hbX.2.2.2.2 l hl i hi).2.1 w1
  have at0 : ∀ j, (j < 960 ∨ 1206 ≤ j) → j ≠ 1383 + 6 * l → inS T l X (T (12 + 7 * l)) j = X j := fun j h1 h2 => inS_at (by omega) w ho h1 h2
  have cx : ctS T X l 0 ≤ 60 := Nat.le_trans (fb_ct_le _ _) w
  have du := hi.du (p := prS T X l y) hW hl hy
  have zct : ctS T Z l 0 = ctS T X l 0 := fb_ct_cong (fun k hk => by rw [hZ (60 * l + k) ⟨by omega, by omega, by omega⟩])
  have zf : Z (1211 + l) = X (1211 + l) := hZ _ ⟨by omega, by omega, by omega⟩
  have zw : Z (1207 + l) = X (1207 + l) := hZ _ ⟨by omega, by omega, by omega⟩
  have zp : ∀ y', 1 ≤ y' → y' ≤ T (12 + 7 * l + 3) → prS T Z l y' = prS T X l y' := fun y' h1 h2 => prS_cong (hZ _ ⟨by omega, by omega, by omega⟩)
  have prr : ∀ y', 1 ≤ y' → y' ≤ T (12 + 7 * l + 3) → 1 ≤ prS T X l y' ∧ prS T X l y' ≤ 999 := fun y' h1 h2 => by
    have pv := hbX.2.2.2.1 l hl y' h1 h2
    unfold prS; split <;> omega
  have pr1 := prr y (by omega) hy
  have cs := csR_rng (y := y) hW hl pr1.1 pr1.2
  have bg : bgR T l (prS T X l y) y ≤ 1 := bgR_le
  have fub : fuR T l (prS T X l y) y (ctS T X l 0) (X (1211 + l)) ≤ 90000000 := by
    have := fu_le (y := y) hW hl (p := prS T X l y) (s := ctS T X l 0) (f := X (1211 + l))
    omega
  have hC : CmD B M.2.2 := hQ.1
  -- the row
  obtain ⟨N0, e0, k0, ro⟩ := w_open hQ ht hB hl
  have hQ0 : CV B t N0 T Z := hQ.kp ht hB (by rw [k0.1]) (fun a ha => k0.2 a (by omega))
  obtain ⟨N1, e1, a1, a2, a3, a4⟩ := p_run_lp (B := B) (S := Z) hW hl (oy := 0) (op := 0) (by omega) (pr := prS T Z l) (fun y' h1 h2 => ⟨by rw [if_neg (by omega)], by rw [zp y' h1 h2]; exact prr y' h1 h2⟩) (T (12 + 7 * l + 3) + 1 - y) y FU (ctS T Z l 0) (Z (1211 + l) + 0) N0 rfl (by omega) (by omega) (by unfold FU; omega) hQ0.1 ro (fun _ => by rw [zct, Nat.add_zero, zf]; exact hi)
  have ra := a4 0 (by omega)
  have ra' : RA B N1 T l (prS T X l y) y (ctS T X l 0) (X (1211 + l)) := by
    have h9 : RA B N1 T l (prS T Z l (y + 0)) (y + 0) (ctS T Z l 0) (Z (1211 + l) + 0) := ra
    rw [Nat.add_zero, Nat.add_zero, zp y (by omega) hy, zct, zf] at h9
    exact h9
  obtain ⟨b7, b8, b9, b0, b1, b2⟩ := ra'
  clear ra a4
  have hQ1 : CV B t N1 T Z := hQ0.kp ht hB (by rw [a1]) (fun a ha => a2 a (by omega))
  have fs : f_X4_foresee (B + 44) t (B + 15) (nI l) M = some ((), N1) := by
    have hC0 : CmD B N0.2.2 := hQ0.1
    have hC1 : CmD B N1.2.2 := hQ1.1
    have rn : f_X4_run (B + 44) (nI 0) (nI 0) (nI 0) N0 = some ((), N1) := by
      have e1' : f_X4_run_20 FU (B + 44) (nI 0) (nI 0) (nI (ctS T Z l 0)) (nI (Z (1211 + l) + 0)) (nI y) N0 = some ((), N1) := e1
      rw [← e1']
      have r8 := ro.1.2.2.2.2.2.2.1
      rw [hy1] at r8
      simp (disch := omega) only [f_X4_run, reduceIte, ↓reduceIte, ↓ck_i, ↓nm_s, ↓bR_i, ↓bd_i, Option.isSome_some, Option.getD_some, gK, gR, gN, gIs, inb_nI, and_self, nI_clamp, fa_lit, pk_mul, nI_add, n10, n1z, n00, eq_self, not_true_eq_false, not_false_eq_true, hC0.a, ro.1.2.2.2.2.2.2.2.2, ro.1.2.2.2.2.2.1, r8]
    simp (disch := omega) only [f_X4_foresee, reduceIte, ↓reduceIte, ↓ck_i, ↓nm_s, ↓bR_i, ↓bd_i, Option.isSome_some, Option.getD_some, gK, gR, gN, gIs, inb_nI, and_self, nI_clamp, fa_lit, pk_mul, nI_add, n10, n1z, n00, eq_self, not_true_eq_false, not_false_eq_true, hC.a, e0, hC0.a, rn]
  -- interest
  obtain ⟨N2, Z1, e2, c2, z2, y2, s2⟩ := w_int_lp (B := B) (X := X) hT hl (T (12 + 7 * l)) 0 FU N1 Z (by omega) (by unfold FU; omega) hQ1 hZ
  rw [show (0 : Nat) + 1 = 1 by omega] at e2
  have pi : f_X7_payInterest B (nI l) N1 = some ((), N2) := by
    rw [f_X7_payInterest, show (1 : Int32) = nI 1 from rfl]
    exact e2
  have z1w : Z1 (1207 + l) = X (1207 + l) := by rw [z2 _ ⟨by omega, by omega, by omega⟩, at0 _ (by omega) (by omega)]
  have wr := (c2.2.2.2.2.2.2.2.2.2.1 l hl).1
  have c2w := (c2.2.2.2.2.2.2.1.2.2.1 l hl).1
  rw [z1w] at c2w wr
  -- the wheel as it is ahead
  have c3 := CV.ahead (v := X (1207 + l)) hl (y := y) (by omega) hy c2 hT (c2.2.2.2.2.2.2.2.up hW (by omega))
  have c3w := (c3.2.2.2.2.2.2.1.2.2.1 l hl).1
  rw [upS_ne (by omega), z1w] at c3w
  obtain ⟨N4, e4, d1, d2, d3⟩ := p_load (v := nI (X (1207 + l))) c3 ht hB hl (y := y) (by omega)
  have c4 : CV B t N4 T (upS Z1 (1299 + 21 * l + y) (X (1207 + l))) := c3.kp ht hB (by rw [d2.1]) (fun a ha => d2.2 a (by omega) (by omega))
  have sct : fb_ct (stnd (lyM T l y X) l) (T (12 + 7 * l)) = ctS T X l 0 := fb_ct_cong (inS_st (by omega) w ho)
  have d1' : DR B N4 (stnd (lyM T l y X) l) (T (12 + 7 * l)) := d1.congr (fun k hk => by
    rw [inS_st (by omega) w ho k hk]
    have h5 := hst k hk
    have h8 : upS Z1 (1299 + 21 * l + y) (X (1207 + l)) (480 + 60 * l + k) = X (480 + 60 * l + k) := by
      rw [upS_ne (by omega), z2 _ ⟨by omega, by omega, by omega⟩, at0 _ (by omega) (by omega)]
    unfold stp stnd
    rw [h8]
    by_cases hx : X (60 * l + k) = 0
    · rw [decide_eq_true hx, decide_eq_true (h5.1.mp hx)]; rfl
    · rw [decide_eq_false hx, decide_eq_false (fun e => hx (h5.1.mpr e)), decide_eq_false (by omega)]; rfl)
  have lw : lyM T l y X (1207 + l) = X (1207 + l) := by
    unfold lyM
    rw [upS_ne (by omega), upS_ne (by omega), at0 _ (by omega) (by omega)]
  have lf : lyM T l y X (1211 + l) = fuR T l (prS T X l y) y (ctS T X l 0) (X (1211 + l)) := by
    unfold lyM
    rw [upS_ne (by omega), upS_eq]
  have hbM : SB T (lyM T l y X) := by
    have wx := (hbX.2.2.1 l hl).1
    unfold lyM
    exact ((inS_sb hW hl hbX _ (Nat.le_refl _)).up hW (by omega)).up hW (by omega)
  have alls := drS_all (y := y) (bt := bgR T l (prS T X l y) y) (cst := csR T l (prS T X l y) y) hW hl hbM (by omega) sct cx
  have keep : ∀ a, B + 44 ≤ a → a < B + 53 → N4.1 a = N1.1 a := fun a h1 h2 => by rw [d2.2 a (by omega) (by omega), sI_ne (by omega), s2.2 a (by omega)]
  obtain ⟨N5, Z5, e5, c5, z5, y5, k5⟩ := w_draw_lp (B := B) (t := t) (X := lyM T l y X) hT ht hB hl (bt := bgR T l (prS T X l y) y) (cst := csR T l (prS T X l y) y) (due := duR T l (prS T X l y) y (ctS T X l 0) (X (1211 + l))) (st := ctS T X l 0) (fu := fuR T l (prS T X l y) y (ctS T X l 0) (X (1211 + l))) (by omega) bg cs.2 du cx fub (duR T l (prS T X l y) y (ctS T X l 0) (X (1211 + l))) 0 FU N4 _ (by omega) (by unfold FU; omega) c4 hbM (by
    show ag (dP l) _ (lyM T l y X)
    unfold lyM
    refine ag.up (ag.rf (fun q hq => z2 q hq.1) (fun q => q.2.2 rfl))) d1' (by rw [d3]; exact congrArg nI lw.symm) (by rw [Nat.sub_zero]; exact sct) (by rw [keep _ (by omega) (by omega)]; exact b0) (by rw [keep _ (by omega) (by omega)]; exact b2) (fun r2 h2 => (alls r2 (by omega)).1) lf
  rw [show (0 : Nat) + 1 = 1 by omega] at e5
  have b51 : N4.1 (B + 51) y = nI (bgR T l (prS T X l y) y) := by rw [keep _ (by omega) (by omega)]; exact b1
  have b49 : N4.1 (B + 49) y = nI (duR T l (prS T X l y) y (ctS T X l 0) (X (1211 + l))) := by rw [keep _ (by omega) (by omega)]; exact b9
  refine ⟨N5, Z5, ?_, c5, z5, by rw [y5, upS_ne (by omega), y2], ?_, fun a h1 h2 => ?_⟩
  · have hC1 : CmD B N1.2.2 := hQ1.1
    have hC2 : CmD B N2.2.2 := c2.1
    have hS2 : StD (B + 15) N2.2.2 := c2.2.2.2.1
    have hC4 : CmD B N4.2.2 := c4.1
    have e5' : f_X7_passYear_102 FU B (nI l) (nI y) (nI (if bgR T l (prS T X l y) y = 0 then 1 else 3)) (nI (duR T l (prS T X l y) y (ctS T X l 0) (X (1211 + l)))) (nI 1) N4 = some (nI (lyD T l y X), N5) := e5
    rw [← e5']
    have c2r : N2.2.2.1 B 0 = some t := c2.2.1
    by_cases hb : bgR T l (prS T X l y) y = 0
    · rw [hb] at b51
      rw [if_pos hb]
      have n01 : ¬ nI 0 = nI 1 := by decide
      simp (disch := omega) only [f_X7_passYear, reduceIte, ↓reduceIte, ↓ck_i, ↓nm_s, ↓bR_i, ↓bd_i, Option.isSome_some, Option.getD_some, gK, gR, gN, gIs, inb_nI, and_self, nI_clamp, fa_lit, pk_mul, nI_add, n10, n1z, n00, eq_self, not_true_eq_false, not_false_eq_true, hC.a, hQ.2.1, fs, hC1.a, pi, hC2.a, hS2.a, p_cellOf, c2w, sI_sh, c2r, c3w, e4, hC4.a, b51, n01, b49]
    · have hb1 : bgR T l (prS T X l y) y = 1 := by omega
      rw [hb1] at b51
      rw [if_neg hb]
      have n11 : (nI 1 = nI 1) = True := by decide
      simp (disch := omega) only [f_X7_passYear, reduceIte, ↓reduceIte, ↓ck_i, ↓nm_s, ↓bR_i, ↓bd_i, Option.isSome_some, Option.getD_some, gK, gR, gN, gIs, inb_nI, and_self, nI_clamp, fa_lit, pk_mul, nI_add, n10, n1z, n00, eq_self, not_true_eq_false, not_false_eq_true, hC.a, hQ.2.1, fs, hC1.a, pi, hC2.a, hS2.a, p_cellOf, c2w, sI_sh, c2r, c3w, e4, hC4.a, b51, n11, b49]
  · rw [k5.1, d2.1, sI_r, s2.1, a1, k0.1]
  · rw [k5.2 a h1 (by omega) (by omega), d2.2 a (by omega) (by omega), sI_ne (by omega), s2.2 a h1, a2 a (by omega), k0.2 a (by omega)]
end YR4
