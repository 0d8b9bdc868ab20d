section YR3
variable {B t c l y : Nat} {T S X Z : Nat → Nat} {M N Q : Mm} {P : Nat → Prop}
theorem ag.three {a b d u v w : Nat} (h : ag P Z X) (hab : a ≠ b) (had : a ≠ d) : ag P (upS (upS (upS Z a u) b v) d w) (upS (upS (upS X b v) d w) a u) := fun q hq => by
  have e := h q hq
  unfold upS
  by_cases q1 : q = a
  · subst q1; rw [if_neg had, if_neg hab, if_pos rfl, if_pos rfl]
  · by_cases q2 : q = d
    · subst q2; rw [if_pos rfl, if_neg q1, if_pos rfl]
    · by_cases q3 : q = b
      · subst q3; rw [if_neg q2, if_pos rfl, if_neg q1, if_neg q2, if_pos rfl]
      · rw [if_neg q2, if_neg q3, if_neg q1, if_neg q1, if_neg q2, if_neg q3]; exact e
theorem reS_at (hl4 : l < 4) {k r bt cst j : Nat} (hk : k < 60) (ho : X (240 + 60 * l + k) ≤ 6) (h1 : j ≠ 480 + 60 * l + k) (h2 : j ≠ 720 + 60 * l + k) (h3 : j ≠ 60 * l + k) (h4 : j < 960 ∨ 1206 ≤ j) (h5 : j ≠ 1383 + 6 * l + 2) (h6 : j ≠ 1383 + 6 * l + 5) : reS T l y bt cst X k r j = X j := by
  unfold reS
  split
  · rw [upS_ne h3, upS_ne h2, upS_ne h1]
  · rw [upS_ne h6, upS_ne h5, pyS_at (by omega), upS_ne (by omega), upS_ne h3, upS_ne h2, upS_ne h1]
theorem reS_c (hl4 : l < 4) {k r bt cst : Nat} (hk : k < 60) (ho : X (240 + 60 * l + k) ≤ 6) : reS T l y bt cst X k r (60 * l + k) = if bt = 0 then 1 else 3 := by
  unfold reS
  split
  · rw [upS_eq]
  · rw [upS_ne (by omega), upS_ne (by omega), pyS_at (by omega), upS_ne (by omega), upS_eq]
theorem drS1_st (hW : TW T) (hl : l < T 0) {r bt cst : Nat} (hb : SB T X) (hL : 0 < fb_ct (stnd X l) (T (12 + 7 * l))) : (∀ j, j < T (12 + 7 * l) → stnd (drS1 T l y bt cst X r) l j = rmv (stnd X l) (kt (stnd X l) (T (12 + 7 * l)) (tuS (X (1207 + l)) % fb_ct (stnd X l) (T (12 + 7 * l)))) j) ∧ drS1 T l y bt cst X r 1206 = X 1206 ∧ drS1 T l y bt cst X r (1207 + l) = tuS (X (1207 + l)) ∧ drS1 T l y bt cst X r (1211 + l) = X (1211 + l) := by
  have w0 := hW.1
  have w1 := hW.2.1
  have w := (hW.2.2 l hl).2.1
  have hm := Nat.mod_lt (tuS (X (1207 + l))) hL
  obtain ⟨k1, k2, k3⟩ := kt_spec hm
  unfold drS1
  generalize kt (stnd X l) (T (12 + 7 * l)) (tuS (X (1207 + l)) % fb_ct (stnd X l) (T (12 + 7 * l))) = k at *
  have ho := (hb.2.2.2.2 l hl k k1).2.1
  have ho2 : upS X (1207 + l) (tuS (X (1207 + l))) (240 + 60 * l + k) ≤ 6 := by rw [upS_ne (by omega)]; omega
  refine ⟨fun j hj => ?_, ?_, ?_, ?_⟩
  · unfold stnd rmv
    by_cases e : j = k
    · subst e
      rw [if_pos rfl, reS_c (by omega) (by omega) ho2]
      exact decide_eq_false (by split <;> omega)
    · rw [if_neg e, reS_at (by omega) (by omega) ho2 (by omega) (by omega) (by omega) (by omega) (by omega) (by omega), upS_ne (by omega)]
  · rw [reS_at (by omega) (by omega) ho2 (by omega) (by omega) (by omega) (by omega) (by omega) (by omega), upS_ne (by omega)]
  · rw [reS_at (by omega) (by omega) ho2 (by omega) (by omega) (by omega) (by omega) (by omega) (by omega), upS_eq]
  · rw [reS_at (by omega) (by omega) ho2 (by omega) (by omega) (by omega) (by omega) (by omega) (by omega), upS_ne (by omega)]
theorem v_draw_lp (hl : l < T 0) {bt cst due st : Nat} (hy : y ≤ 60) (hbt : bt ≤ 1) (hc : cst ≤ T (12 + 7 * l + 1)) (hds : due ≤ st) (h60 : st ≤ 60) : ∀ (d r n : Nat) (M : Mm), r + d = due → d < n → RV B M T (drS T l y bt cst X r) → M.1 (B + 59) 20 = nI cst → M.1 (B + 59) 21 = nI bt → fb_ct (stnd (drS T l y bt cst X r) l) (T (12 + 7 * l)) = st - r → drS T l y bt cst X r 1206 = y → ∃ N, f_X8_loanYear_188 n (B + 59) (nI l) (nI (st - r)) (nI due) (nI (r + 1)) M = some (nI due, N) ∧ RV B N T (drS T l y bt cst X due) ∧ KQ B M N := by
  intro d
  induction d with
  | zero =>
    intro r n M hr hn hR h20 h21 hct hX
    obtain ⟨n, rfl⟩ : ∃ q, n = q + 1 := ⟨n - 1, by omega⟩
    have hr : r = due := by omega
    subst hr
    refine ⟨M, ?_, hR, KQ.rf⟩
    rw [f_X8_loanYear_188, if_pos (by rw [nI_ltI (by omega) (by omega)]; omega)]
  | succ d ih =>
    intro r n M hr hn hR h20 h21 hct hX
    obtain ⟨n, rfl⟩ : ∃ q, n = q + 1 := ⟨n - 1, by omega⟩
    have w := (hR.2.2.2.1.2.2 l hl).2.1
    have w0 := hR.2.2.2.1.1
    have w1 := hR.2.2.2.1.2.1
    have hD : RfD B M.2.2 := hR.1
    have e : ¬ due < r + 1 := by omega
    have wb := (hR.2.2.2.2.2.2.1 l hl).1
    have sw := hR.2.2.1 (1207 + l) (by omega)
    have L0 : 0 < fb_ct (stnd (drS T l y bt cst X r) l) (T (12 + 7 * l)) := by omega
    have tl := tuS_le (drS T l y bt cst X r (1207 + l))
    obtain ⟨g1, g2, g3, g4⟩ := drS1_st (y := y) (r := r + 1) (bt := bt) (cst := cst) hR.2.2.2.1 hl hR.2.2.2.2 L0
    have hm := Nat.mod_lt (tuS (drS T l y bt cst X r (1207 + l))) L0
    obtain ⟨k1, k2, k3⟩ := kt_spec hm
    have eS : drS T l y bt cst X (r + 1) = drS1 T l y bt cst (drS T l y bt cst X r) (r + 1) := rfl
    have eS2 : drS1 T l y bt cst (drS T l y bt cst X r) (r + 1) = reS T l y bt cst (upS (drS T l y bt cst X r) (1207 + l) (tuS (drS T l y bt cst X r (1207 + l)))) (kt (stnd (drS T l y bt cst X r) l) (T (12 + 7 * l)) (tuS (drS T l y bt cst X r (1207 + l)) % fb_ct (stnd (drS T l y bt cst X r) l) (T (12 + 7 * l)))) (r + 1) := rfl
    have hct2 : fb_ct (stnd (drS T l y bt cst X (r + 1)) l) (T (12 + 7 * l)) = st - (r + 1) := by
      rw [eS, fb_ct_cong g1, rmv_ct k2 k1, hct]; omega
    rw [hct] at hm k1 k2 k3 eS2
    generalize hW0 : drS T l y bt cst X r (1207 + l) = W at *
    generalize hK : kt (stnd (drS T l y bt cst X r) l) (T (12 + 7 * l)) (tuS W % (st - r)) = K at *
    have qt := q_turns (M := M) (x := W) (by omega)
    have hV := hR.s (j := 1207 + l) (v := tuS W) (hR.2.2.2.2.up hR.2.2.2.1 (by omega))
    have hst : ∀ j, j < T (12 + 7 * l) → stnd (upS (drS T l y bt cst X r) (1207 + l) (tuS W)) l j = stnd (drS T l y bt cst X r) l j := fun j hj => by
      unfold stnd
      rw [upS_ne (by omega)]
    have ap := v_at_lp hV hl (K := K) (i := tuS W % (st - r)) k1 (by rw [hst K k1]; exact k2) (by rw [fb_ct_cong (fun j hj => hst j (by omega))]; exact k3) K 0 FU (by omega) (by unfold FU; omega)
    rw [show fb_ct (stnd (upS (drS T l y bt cst X r) (1207 + l) (tuS W)) l) 0 = 0 from rfl, Nat.sub_zero] at ap
    have ap2 : f_X8_atPlace (B + 59) (nI l) (nI (tuS W % (st - r))) (sI M (B + 63) (1207 + l) (nI (tuS W))) = some (nI (K + 1), sI M (B + 63) (1207 + l) (nI (tuS W))) := by
      rw [f_X8_atPlace, show (0 : Int32) = nI 0 from rfl]
      exact ap
    obtain ⟨N, eN, n1, n2⟩ := v_retires (y := y) (k := K) (r := r + 1) (bt := bt) (cst := cst) hV hl k1 (by rw [upS_ne (by omega)]; exact hX) hy (by omega) hbt (by rw [sI_ne (by omega)]; exact h21) (by rw [sI_ne (by omega)]; exact h20) hc
    rw [← eS2, ← eS] at n1
    have kq := (KQ.s (B := B) (M := M) (j := 1207 + l) (v := nI (tuS W))).tr n2
    obtain ⟨N2, eN2, m1, m2⟩ := ih (r + 1) n N (by omega) (by omega) n1 (by rw [kq.2 _ (by omega)]; exact h20) (by rw [kq.2 _ (by omega)]; exact h21) hct2 (by rw [eS, g2]; exact hX)
    refine ⟨N2, ?_, m1, kq.tr m2⟩
    have nz : ¬ nI (st - r) = nI 0 := by rw [nI_eq (by omega) (by omega)]; omega
    have pr := pk_rem (a := tuS W) (d := st - r) (by omega) (by omega) (by omega)
    have gw : (sI M (B + 63) (1207 + l) (nI (tuS W))).1 (B + 63) (1207 + l) = nI (tuS W) := sI_hit
    have ms : nI (st - r) - nI 1 = nI (st - (r + 1)) := by rw [pk_sub (by omega)]; exact congrArg nI (by omega)
    rw [← eN2]
    simp (disch := omega) only [f_X8_loanYear_188, reduceIte, ↓reduceIte, ↓ck_i, ↓nm_s, ↓bR_i, ↓bd_i, Option.isSome_some, Option.getD_some, gK, gR, gN, gIs, inb_nI, and_self, nI_clamp, fa_lit, pk_mul, nI_add, n10, n1z, n00, eq_self, not_true_eq_false, not_false_eq_true, nI_ltI, e, hD.a, sw, qt, sI_sh, nz, gw, pr, ap2, eN, n1.1, m1_add, ms]
theorem DR.congr {p q : Nat → Bool} {n : Nat} (h : DR B M p n) (e : ∀ k, k < n → p k = q k) : DR B M q n := by
  refine ⟨by rw [← fb_ct_cong e]; exact h.1, fun k hk hq => ?_⟩
  rw [← fb_ct_cong (fun j hj => e j (by omega))]
  exact h.2 k hk (by rw [e k hk]; exact hq)
def KE (B : Nat) (M N : Mm) : Prop := N.2 = M.2 ∧ ∀ a, (a < B + 15 ∨ B + 25 ≤ a) → a ≠ B + 53 → a ≠ B + 54 → N.1 a = M.1 a
theorem KE.tr (h : KE B M N) (g : KE B N Q) : KE B M Q := ⟨g.1.trans h.1, fun a a1 a2 a3 => (g.2 a a1 a2 a3).trans (h.2 a a1 a2 a3)⟩
theorem KS.e (h : KS B M N) : KE B M N := ⟨h.1, fun a a1 _ _ => h.2 a a1⟩
theorem KD.e (h : KD B M N) : KE B M N := ⟨h.1, fun a _ a2 a3 => h.2 a a2 a3⟩
theorem pyS_0 {g : Nat} (hb : SB T Z) (hg : g ≤ T 1) : pyS Z g 0 = Z := by
  unfold pyS
  split
  · rfl
  · funext q
    unfold upS
    split
    · rename_i h0 e
      have := hb.2.1 (g - 1) (by omega)
      rw [e]; omega
    · rfl
def dP (l j : Nat) : Prop := cP j ∧ j ≠ 1207 + l ∧ j ≠ 1211 + l
theorem w_draw_lp (hT : t + 14 ≤ B + 15 ∨ B + 25 ≤ t) (ht : t + 14 ≤ B + 44) (hB : t ≠ B) (hl : l < T 0) {bt cst due st fu : Nat} (hy : y ≤ 20) (hbt : bt ≤ 1) (hc : cst ≤ 999) (hds : due ≤ st) (h60 : st ≤ 60) (hfu : fu ≤ 90000000) : ∀ (d r n : Nat) (M : Mm) (Z : Nat → Nat), r + d = due → d < n → CV B t M T Z → SB T (drS T l y bt cst X r) → ag (dP l) Z (drS T l y bt cst X r) → DR B M (stnd (drS T l y bt cst X r) l) (T (12 + 7 * l)) → M.1 (B + 53) 2 = nI (drS T l y bt cst X r (1207 + l)) → fb_ct (stnd (drS T l y bt cst X r) l) (T (12 + 7 * l)) = st - r → M.1 (B + 50) y = nI cst → M.1 (B + 52) y = nI fu → (∀ r2, r2 ≤ due → SB T (drS T l y bt cst X r2)) → drS T l y bt cst X r (1211 + l) = fu → ∃ N Z2, f_X7_passYear_102 n B (nI l) (nI y) (nI (if bt = 0 then 1 else 3)) (nI due) (nI (r + 1)) M = some (nI due, N) ∧ CV B t N T Z2 ∧ ag cP Z2 (drS T l y bt cst X due) ∧ Z2 1206 = Z 1206 ∧ KE B M N := by
  intro d
  induction d with
  | zero =>
    intro r n M Z hr hn hQ hb hZ hDR h2 hct h50 h52 hsb hf
    obtain ⟨n, rfl⟩ : ∃ q, n = q + 1 := ⟨n - 1, by omega⟩
    have hr : r = due := by omega
    subst hr
    have w0 := hQ.2.2.2.2.1.1
    have hC : CmD B M.2.2 := hQ.1
    have wb := (hb.2.2.1 l hl).1
    have hV := CV.wheel (v := drS T l y bt cst X r (1207 + l)) hl hQ hT (hQ.2.2.2.2.2.2.2.up hQ.2.2.2.2.1 (by omega))
    have hV2 := CV.fund (v := fu) hl hV hT (hV.2.2.2.2.2.2.2.up hQ.2.2.2.2.1 (by omega))
    refine ⟨_, _, ?_, hV2, fun q hq => ?_, by rw [upS_ne (by omega), upS_ne (by omega)], ((KS.s (by omega)).tr (KS.s (by omega))).e⟩
    · have e : r < r + 1 := by omega
      have g52 : (sI M (B + 15 + 2) l (nI (drS T l y bt cst X r (1207 + l)))).1 (B + 52) y = nI fu := by rw [sI_ne (by omega)]; exact h52
      simp (disch := omega) only [f_X7_passYear_102, reduceIte, ↓reduceIte, ↓ck_i, ↓nm_s, ↓bR_i, ↓bd_i, Option.isSome_some, Option.getD_some, gK, gR, gN, gIs, inb_nI, and_self, nI_clamp, fa_lit, pk_mul, nI_add, n10, n1z, n00, eq_self, not_true_eq_false, not_false_eq_true, nI_ltI, e, hC.a, hQ.2.2.2.1, h2, sI_sh, g52]
    · by_cases e1 : q = 1211 + l
      · subst e1; rw [upS_eq, hf]
      · rw [upS_ne e1]
        by_cases e2 : q = 1207 + l
        · subst e2; rw [upS_eq]
        · rw [upS_ne e2]; exact hZ q ⟨hq, e2, e1⟩
  | succ d ih =>
    intro r n M Z hr hn hQ hb hZ hDR h2 hct h50 h52 hsb hf
    obtain ⟨n, rfl⟩ : ∃ q, n = q + 1 := ⟨n - 1, by omega⟩
    have hW := hQ.2.2.2.2.1
    have w := (hW.2.2 l hl).2.1
    have w0 := hW.1
    have w1 := hW.2.1
    have hC : CmD B M.2.2 := hQ.1
    have wb := (hb.2.2.1 l hl).1
    have L0 : 0 < fb_ct (stnd (drS T l y bt cst X r) l) (T (12 + 7 * l)) := by omega
    obtain ⟨g1, g2, g3, g4⟩ := drS1_st (y := y) (r := r + 1) (bt := bt) (cst := cst) hW hl hb L0
    have hm := Nat.mod_lt (tuS (drS T l y bt cst X r (1207 + l))) L0
    obtain ⟨k1, k2, k3⟩ := kt_spec hm
    have eS : drS T l y bt cst X (r + 1) = drS1 T l y bt cst (drS T l y bt cst X r) (r + 1) := rfl
    have eS2 : drS1 T l y bt cst (drS T l y bt cst X r) (r + 1) = reS T l y bt cst (upS (drS T l y bt cst X r) (1207 + l) (tuS (drS T l y bt cst X r (1207 + l)))) (kt (stnd (drS T l y bt cst X r) l) (T (12 + 7 * l)) (tuS (drS T l y bt cst X r (1207 + l)) % fb_ct (stnd (drS T l y bt cst X r) l) (T (12 + 7 * l)))) (r + 1) := rfl
    have hct2 : fb_ct (stnd (drS T l y bt cst X (r + 1)) l) (T (12 + 7 * l)) = st - (r + 1) := by
      rw [eS, fb_ct_cong g1, rmv_ct k2 k1, hct]; omega
    obtain ⟨N1, e1, d1, d2, d3⟩ := p_draw hC hDR w (x := drS T l y bt cst X r (1207 + l)) (by omega) h2 L0
    have d1' := d1.congr (fun j hj => (g1 j hj).symm)
    rw [← eS] at d1'
    have hQ1 : CV B t N1 T Z := hQ.kp ht hB (by rw [d3.1]) (fun a ha => d3.2 a (by omega) (by omega))
    generalize hK : kt (stnd (drS T l y bt cst X r) l) (T (12 + 7 * l)) (tuS (drS T l y bt cst X r (1207 + l)) % fb_ct (stnd (drS T l y bt cst X r) l) (T (12 + 7 * l))) = K at *
    have z7 := hZ (240 + 60 * l + K) ⟨⟨by omega, by omega, by omega⟩, by omega, by omega⟩
    have hV1 := CV.cond (v := if bt = 0 then 1 else 3) hl (k := K) k1 hQ1 hT (hQ1.2.2.2.2.2.2.2.up hW (by split <;> omega))
    have hV2 := CV.ret (v := y) hl (k := K) k1 hV1 hT (hV1.2.2.2.2.2.2.2.up hW (by omega))
    have hV3 := CV.place (v := r + 1) hl (k := K) k1 hV2 hT (hV2.2.2.2.2.2.2.2.up hW (by omega))
    have s7 := (hV3.2.2.2.2.2.2.1.2.2.2.2 l hl K k1).2.1
    rw [upS_ne (by omega), upS_ne (by omega), upS_ne (by omega)] at s7
    have v5 := (hQ1.2.2.2.2.2.2.2.2.2.2.2 l hl K k1).2.1
    have h3 : ag (dP l) (upS (upS (upS Z (60 * l + K) (if bt = 0 then 1 else 3)) (480 + 60 * l + K) y) (720 + 60 * l + K) (r + 1)) (upS (upS (upS (upS (drS T l y bt cst X r) (1207 + l) (tuS (drS T l y bt cst X r (1207 + l)))) (480 + 60 * l + K) y) (720 + 60 * l + K) (r + 1)) (60 * l + K) (if bt = 0 then 1 else 3)) := ag.three (ag.rf hZ (fun q => q.2.1 rfl)) (by omega) (by omega)
    have kk : KE B M (sI (sI (sI N1 (B + 15 + 6) (60 * l + K) (nI (if bt = 0 then 1 else 3))) (B + 15 + 8) (60 * l + K) (nI y)) (B + 15 + 9) (60 * l + K) (nI (r + 1))) := d3.e.tr (((KS.s (by omega)).tr (KS.s (by omega))).tr (KS.s (by omega))).e
    have ret : f_X5_retire (B + 15) (nI (60 * l + K)) (nI (if bt = 0 then 1 else 3)) (nI y) (nI (r + 1)) N1 = some ((), sI (sI (sI N1 (B + 15 + 6) (60 * l + K) (nI (if bt = 0 then 1 else 3))) (B + 15 + 8) (60 * l + K) (nI y)) (B + 15 + 9) (60 * l + K) (nI (r + 1))) := by
      simp (disch := omega) only [f_X5_retire, reduceIte, ↓reduceIte, ↓ck_i, ↓nm_s, ↓bR_i, ↓bd_i, Option.isSome_some, Option.getD_some, gK, gR, gN, gIs, inb_nI, and_self, nI_clamp, fa_lit, pk_mul, nI_add, n10, n1z, n00, eq_self, not_true_eq_false, not_false_eq_true, hQ1.2.2.2.1, sI_sh]
    have e : ¬ due < r + 1 := by omega
    have eb : ¬ K + 1 < 1 := by omega
    have hC1 : CmD B N1.2.2 := hQ1.1
    have hS1 : StD (B + 15) N1.2.2 := hQ1.2.2.2.1
    have fin : ∀ (N2 : Mm) (Z3 : Nat → Nat), KE B M N2 → N2.1 (B + 53) = N1.1 (B + 53) → N2.1 (B + 54) = N1.1 (B + 54) → CV B t N2 T Z3 → ag (dP l) Z3 (drS T l y bt cst X (r + 1)) → Z3 1206 = Z 1206 → f_X7_passYear_102 (n + 1) B (nI l) (nI y) (nI (if bt = 0 then 1 else 3)) (nI due) (nI (r + 1)) M = f_X7_passYear_102 n B (nI l) (nI y) (nI (if bt = 0 then 1 else 3)) (nI due) (nI (r + 1 + 1)) N2 → ∃ N Z2, f_X7_passYear_102 (n + 1) B (nI l) (nI y) (nI (if bt = 0 then 1 else 3)) (nI due) (nI (r + 1)) M = some (nI due, N) ∧ CV B t N T Z2 ∧ ag cP Z2 (drS T l y bt cst X due) ∧ Z2 1206 = Z 1206 ∧ KE B M N := fun N2 Z3 k3 q53 q54 c3 a3 z3 st3 => by
      obtain ⟨N, Z2, eN, n1, n2, n3, n4⟩ := ih (r + 1) n N2 Z3 (by omega) (by omega) c3 (hsb (r + 1) (by omega)) a3 (by unfold DR; rw [q53, q54]; exact d1') (by rw [q53, d2, eS, g3]) hct2 (by rw [k3.2 _ (by omega) (by omega) (by omega)]; exact h50) (by rw [k3.2 _ (by omega) (by omega) (by omega)]; exact h52) hsb (by rw [eS, g4]; exact hf)
      exact ⟨N, Z2, by rw [st3]; exact eN, n1, n2, n3.trans z3, k3.tr n4⟩
    have hXo : upS (drS T l y bt cst X r) (1207 + l) (tuS (drS T l y bt cst X r (1207 + l))) (240 + 60 * l + K) = Z (240 + 60 * l + K) := by rw [upS_ne (by omega), z7]
    by_cases hb0 : bt = 0
    · obtain ⟨N2, e2, c2, ks⟩ := w_pay (g := Z (240 + 60 * l + K)) (p := 0) hV3 hT v5 (by omega)
      rw [pyS_0 hV3.2.2.2.2.2.2.2 v5] at c2
      refine fin N2 _ (kk.tr ks.e) (by rw [ks.2 _ (by omega), sI_ne (by omega), sI_ne (by omega), sI_ne (by omega)]) (by rw [ks.2 _ (by omega), sI_ne (by omega), sI_ne (by omega), sI_ne (by omega)]) c2 ?_ (by rw [upS_ne (by omega), upS_ne (by omega), upS_ne (by omega)]) ?_
      · rw [eS, eS2]
        unfold reS
        rw [if_pos hb0]
        rw [if_pos hb0] at h3
        rw [if_pos hb0]
        exact h3
      · rw [if_pos hb0] at ret s7 e2 ⊢
        have n13 : ¬ nI 1 = nI 3 := by decide
        simp (disch := omega) only [f_X7_passYear_102, reduceIte, ↓reduceIte, ↓ck_i, ↓nm_s, ↓bR_i, ↓bd_i, Option.isSome_some, Option.getD_some, gK, gR, gN, gIs, inb_nI, and_self, nI_clamp, fa_lit, pk_mul, nI_add, n10, n1z, n00, eq_self, not_true_eq_false, not_false_eq_true, nI_ltI, e, hC.a, e1, eb, p_spotOf, hC1.a, hS1.a, ret, sI_sh, n13, s7, e2]
    · have hb1 : bt = 1 := by omega
      obtain ⟨N2, e2, c2, ks⟩ := w_pay (g := Z (240 + 60 * l + K)) (p := cst) hV3 hT v5 (by omega)
      refine fin N2 _ (kk.tr ks.e) (by rw [ks.2 _ (by omega), sI_ne (by omega), sI_ne (by omega), sI_ne (by omega)]) (by rw [ks.2 _ (by omega), sI_ne (by omega), sI_ne (by omega), sI_ne (by omega)]) c2 ?_ (by rw [pyS_at (by omega), upS_ne (by omega), upS_ne (by omega), upS_ne (by omega)]) ?_
      · rw [eS, eS2]
        unfold reS
        rw [if_neg hb0, hXo]
        rw [if_neg hb0] at h3 ⊢
        refine ag.rf (ag.rf (ag.py (ag.rf h3 (fun q => by have := q.1.2.1; omega)) ?_) (fun q => by have := q.1.2.2; omega)) (fun q => by have := q.1.2.2; omega)
        by_cases hg : Z (240 + 60 * l + K) = 0
        · exact Or.inl hg
        · exact Or.inr ⟨⟨by omega, by omega, by omega⟩, by omega, by omega⟩
      · rw [if_neg hb0] at ret s7 e2 kk ⊢
        have g50 : (sI (sI (sI N1 (B + 15 + 6) (60 * l + K) (nI 3)) (B + 15 + 8) (60 * l + K) (nI y)) (B + 15 + 9) (60 * l + K) (nI (r + 1))).1 (B + 50) y = nI cst := by rw [kk.2 _ (by omega) (by omega) (by omega)]; exact h50
        have n33 : (nI 3 = nI 3) = True := by decide
        simp (disch := omega) only [f_X7_passYear_102, reduceIte, ↓reduceIte, ↓ck_i, ↓nm_s, ↓bR_i, ↓bd_i, Option.isSome_some, Option.getD_some, gK, gR, gN, gIs, inb_nI, and_self, nI_clamp, fa_lit, pk_mul, nI_add, n10, n1z, n00, eq_self, not_true_eq_false, not_false_eq_true, nI_ltI, e, hC.a, e1, eb, p_spotOf, hC1.a, hS1.a, ret, sI_sh, n33, s7, g50, e2]
end YR3
