/-! text: a loan's line and a holder's line of the reference -/
section TY8
variable {B d n f0 f l w g v i x c lo hi w2 v2 l2 g2 nn j q : Nat} {tp T S T2 S2 : Td} {M0 M N P0 P Q : Mm} {u : Int32}
theorem DW.whl (h : DW T S l w g v) (hl : l < 4) : DW T (upN S (1207 + l) x) l w g v := by
  have hb := h.b
  obtain ⟨a1, a2, a3, a4, a5, a6, a7, a8, a9, a10, a11, a12, a13⟩ := h
  refine ⟨a1, a2, a3, a4, a5, a6, a7, fun k hk => ?_, fun k hk => ?_, a10, fun k hk => ?_, fun k hk => ?_, fun k hk => ?_⟩
  · rw [upN_o (by omega)]; exact a8 k hk
  · rw [upN_o (by omega)]; exact a9 k hk
  · rw [upN_o (by omega)]; exact a11 k hk
  · rw [upN_o (by omega)]; exact a12 k hk
  · rw [upN_o (by omega)]; exact a13 k hk
theorem r_worded {β : Type} {k : Nat → Nat → Ou} {kc : Int32 → Mm → Option (β × Mm)} {Ψ : Ou → β → Mm → Prop} (x q lo hi : Nat) (hx : 0 < x) (hx2 : x < 2 ^ 30) (hq : q < 80) (ho : lo < 2 ^ 30) (hh : hi < 2 ^ 30) (h : RP B n tp P0 f0 f T S l w g v P) (hw : ∀ y, lo ≤ y → y ≤ hi → DW (upN T q y) S l w2 g v2) (h0 : ∀ e Q, Fr B P0 e Q → Ok (kc (nI 0) Q) (Ψ (.inl e))) (h1 : ∀ y f Q, RP B n tp P0 f0 f (upN T q y) S l w2 g v2 Q → Ok (kc (nI 1) Q) (Ψ (k y f))) : Ok (bd (f_X8_worded (B + 59) (nI x) (nI q) (nI lo) (nI hi) P) kc) (Ψ (oW n tp x f (fun f => oN n tp lo hi f k))) := by
  rw [f_X8_worded, ck_t h.k8, Ok_bd]
  refine r_takes (k := fun f => oN n tp lo hi f k) (Ψ := fun o x M => Ok (kc x M) (Ψ o)) x hx hx2 h (fun e Q q => ?_) (fun Q h _ => ?_)
  · rw [if_pos (by decide)]; exact Ok_some.mpr (h0 e Q q)
  rw [if_neg (by decide), ck_t h.k8]
  refine r_number (k := k) (Ψ := fun o x M => Ok (kc x M) (Ψ o)) lo hi ho hh h (fun e Q q => ?_) (fun y Q b1 b2 e10 h => ?_)
  · rw [if_neg (by decide)]; exact Ok_some.mpr (h0 e Q q)
  rw [if_pos (by decide), ck_t h.k8, h.r12, bR_s, ck_t h.k8, ck_t (h.i62 hq), nm_s, sIc (by omega), e10]
  exact Ok_some.mpr (h1 _ _ _ (h.wT hq (hw y b1 b2)))
theorem r_plan43 {β : Type} {k : Nat → Td → Ou} {kc : Int32 → Mm → Option (β × Mm)} {Ψ : Ou → β → Mm → Prop} (y : Nat) (hy : y ≤ 2) (h : RP B n tp P0 f0 f T S l 5 g v P) (hl : l < 4) (h0 : ∀ e Q, Fr B P0 e Q → Ok (kc (nI 0) Q) (Ψ (.inl e))) (h1 : ∀ f T Q, RP B n tp P0 f0 f T S l 7 g v Q → Ok (kc (nI 1) Q) (Ψ (k f T))) : Ok (bd (f_X8_plan_43 (B + 59) (nI (12 + 7 * l)) (nI y) P) kc) (Ψ (if y = 1 then oN n tp 1 99999 (nxT n tp f) (fun x f => k f (upN (upN T (12 + 7 * l + 4) 1) (12 + 7 * l + 5) x)) else k (nxT n tp f) (upN (upN T (12 + 7 * l + 4) y) (12 + 7 * l + 5) 0))) := by
  have a4 : nI (12 + 7 * l) + (4 : Int32) = nI (12 + 7 * l + 4) := nI_add _ _
  have a5 : nI (12 + 7 * l) + (5 : Int32) = nI (12 + 7 * l + 5) := nI_add _ _
  have dw := h.2.2.2.2.2.2.1
  have d4 : DW (upN T (12 + 7 * l + 4) y) S l 6 g v := dw.fld (j := 4) hl (by omega) ⟨Nat.zero_le _, hy⟩
  have h4 := h.wT (q := 12 + 7 * l + 4) (by omega) d4
  have d5 : DW (upN (upN T (12 + 7 * l + 4) y) (12 + 7 * l + 5) 0) S l 7 g v := d4.fld (j := 5) hl (by omega) ⟨Nat.zero_le _, Nat.zero_le _⟩
  have h5 : RP B n tp P0 f0 f (upN (upN T (12 + 7 * l + 4) y) (12 + 7 * l + 5) 0) S l 7 g v (sI (sI P (B + 62) (12 + 7 * l + 4) (nI y)) (B + 62) (12 + 7 * l + 5) (0 : Int32)) := h4.wT (q := 12 + 7 * l + 5) (by omega) d5
  rw [f_X8_plan_43, if_pos (nI_m1 (by omega)), a4, a5, ck_t h.k8, h.r12, bR_s, ck_t (h.i62 (by omega)), nm_s, sIc (by omega), ck_t h4.k8, h4.r12, bR_s, ck_t (h4.i62 (by omega)), nm_s, sIc (by omega), ck_t h5.k8, Ok_bd]
  refine r_go2 h5 (fun Q h _ => ?_)
  by_cases e : y = 1
  · subst e
    rw [if_pos rfl, if_neg (not_not_intro (show nI 1 = (1 : Int32) from rfl)), ck_t h.k8]
    refine r_number (k := fun x f => k f (upN (upN T (12 + 7 * l + 4) 1) (12 + 7 * l + 5) x)) (Ψ := fun o x M => Ok (kc x M) (Ψ o)) 1 99999 (by omega) (by omega) h (fun e Q q => ?_) (fun y Q b1 b2 e10 h => ?_)
    · rw [if_neg (by decide)]; exact Ok_some.mpr (h0 e Q q)
    have d6 : DW (upN (upN T (12 + 7 * l + 4) 1) (12 + 7 * l + 5) y) S l 7 g v := d4.fld (j := 5) hl (by omega) ⟨Nat.zero_le _, b2⟩
    have h6 := h.wT (q := 12 + 7 * l + 5) (y := y) (l2 := l) (w2 := 7) (g2 := g) (v2 := v) (by omega) (by rw [upN_2]; exact d6)
    rw [upN_2] at h6
    rw [if_pos (by decide), ck_t h.k8, h.r12, bR_s, ck_t h.k8, ck_t (h.i62 (by omega)), nm_s, sIc (by omega), e10]
    exact Ok_some.mpr (h1 _ _ _ h6)
  · rw [if_neg e, if_pos (by rw [show (1 : Int32) = nI 1 from rfl, nI_eq (by omega) (by omega)]; exact e)]
    exact Ok_some.mpr (h1 _ _ _ h)
theorem r_plan {β : Type} {k : Nat → Td → Ou} {kc : Int32 → Mm → Option (β × Mm)} {Ψ : Ou → β → Mm → Prop} (h : RP B n tp P0 f0 f T S l 5 g v P) (hl : l < 4) (h0 : ∀ e Q, Fr B P0 e Q → Ok (kc (nI 0) Q) (Ψ (.inl e))) (h1 : ∀ f T Q, RP B n tp P0 f0 f T S l 7 g v Q → Ok (kc (nI 1) Q) (Ψ (k f T))) : Ok (bd (f_X8_plan (B + 59) (nI (12 + 7 * l)) P) kc) (Ψ (pPlan n tp (12 + 7 * l) f T k)) := by
  rw [f_X8_plan, ck_t h.k8, r_s5 h.1 h.2.1, bd_s, pPlan]
  by_cases e5 : wdT n tp f = 186542
  · rw [if_pos e5, if_pos e5, if_neg (by decide)]
    exact r_plan43 (k := k) (Ψ := Ψ) 0 (by omega) h hl h0 h1
  rw [if_neg e5, if_neg e5, if_pos (by decide), ck_t h.k8, r_s7 h.1 h.2.1, bd_s]
  by_cases e7 : wdT n tp f = 632267
  · rw [if_pos e7, if_pos e7, if_neg (by decide)]
    exact r_plan43 (k := k) (Ψ := Ψ) 1 (by omega) h hl h0 h1
  rw [if_neg e7, if_neg e7, if_pos (by decide), ck_t h.k8, r_s6 h.1 h.2.1, bd_s]
  by_cases e6 : wdT n tp f = 5572
  · rw [if_pos e6, if_pos e6, if_neg (by decide)]
    exact r_plan43 (k := k) (Ψ := Ψ) 2 (by omega) h hl h0 h1
  rw [if_neg e6, if_neg e6, if_pos (by decide), f_X8_plan_43, if_neg (not_not_intro (show (-1 : Int32) = (-1 : Int32) from rfl)), ck_t h.k8, Ok_bd]
  refine r_bad 1 h (fun N q => ?_)
  exact ok_01 (Or.inl rfl) (h0 _ N q)
theorem r_155 {Ψ : Int32 → Mm → Prop} (h : RP B n tp P0 f0 f T S l 8 g 0 P) (hl : l < 4) (h1 : ∀ Q, RP B n tp P0 f0 f (upN T 0 (l + 1)) (upN S (1207 + l) (l + 1)) (l + 1) 0 g 0 Q → Ψ (nI 1) Q) : Ok (f_X8_loanLine_155 (B + 59) (nI l) P) Ψ := by
  have e7 : (1207 : Int32) + nI l = nI (1207 + l) := nI_add _ _
  have dw := h.2.2.2.2.2.2.1
  have h2 := h.wS (q := 1207 + l) (y := l + 1) (by omega) (dw.whl hl)
  have h3 := h2.wT (q := 0) (y := l + 1) (by omega) (dw.lon hl)
  have e0 : gI (sI P (B + 64) (1207 + l) (nI (l + 1))) (B + 62) ((0 : Int32)).toNatClampNeg = nI l := by
    have := h2.2.2.2.1 0 (by omega)
    rw [dw.1] at this; exact this
  have i0 : gK (sI P (B + 64) (1207 + l) (nI (l + 1))) (B + 62) = 10 ∧ inb (0 : Int32) (gN (sI P (B + 64) (1207 + l) (nI (l + 1))) (B + 62)) := h2.i62 (q := 0) (by omega)
  rw [f_X8_loanLine_155, ck_t h.k8, h.r18, bR_s, e7, ck_t (h.i64 (by omega)), nm_s, sIc (by omega), nI_1, ck_t h2.k8, h2.r12, bR_s, ck_t i0, ck_t i0, nm_s, e0, nI_1]
  exact Ok_some.mpr (h1 _ h3)
theorem r_loanLine {k : Nat → Td → Td → Ou} {Ψ : Ou → Int32 → Mm → Prop} (h : RP B n tp P0 f0 f T S l 0 g 0 P) (h0 : ∀ e Q, Fr B P0 e Q → Ψ (.inl e) (nI 0) Q) (h1 : ∀ f T S Q, RP B n tp P0 f0 f T S (l + 1) 0 g 0 Q → Ψ (k f T S) (nI 1) Q) : Ok (f_X8_loanLine (B + 59) P) (Ψ (pLoan n tp f T S l g k)) := by
  have dw := h.2.2.2.2.2.2.1
  have hb := dw.b
  have e0 : gI P (B + 62) ((0 : Int32)).toNatClampNeg = nI l := by
    have := h.2.2.2.1 0 (by omega)
    rw [dw.1] at this; exact this
  have i0 : gK P (B + 62) = 10 ∧ inb (0 : Int32) (gN P (B + 62)) := h.i62 (q := 0) (by omega)
  have e12 : (12 : Int32) + (7 : Int32) * nI l = nI (12 + 7 * l) := by
    rw [show (7 : Int32) = nI 7 from rfl, pk_mul]; exact nI_add _ _
  have e2 : (2 : Int32) + nI l = nI (2 + l) := nI_add _ _
  have aj0 : nI (12 + 7 * l) + (0 : Int32) = nI (12 + 7 * l + 0) := nI_add _ _
  have aj1 : nI (12 + 7 * l) + (1 : Int32) = nI (12 + 7 * l + 1) := nI_add _ _
  have aj2 : nI (12 + 7 * l) + (2 : Int32) = nI (12 + 7 * l + 2) := nI_add _ _
  have aj3 : nI (12 + 7 * l) + (3 : Int32) = nI (12 + 7 * l + 3) := nI_add _ _
  have aj6 : nI (12 + 7 * l) + (6 : Int32) = nI (12 + 7 * l + 6) := nI_add _ _
  rw [f_X8_loanLine, ck_t h.k8, h.r12, bR_s, ck_t i0, nm_s, e0, pLoan]
  by_cases e4 : l = 4
  · rw [if_pos e4, if_neg (not_not_intro (show nI l = (4 : Int32) by rw [e4]; rfl)), ck_t h.k8]
    exact r_bad 5 h (fun N q => ok_01 (Or.inl rfl) (h0 _ N q))
  have hl : l < 4 := by omega
  rw [if_neg e4, if_pos (by rw [show (4 : Int32) = nI 4 from rfl, nI_eq (by omega) (by omega)]; exact e4), ck_t h.k8]
  refine r_go2 h (fun Q h _ => ?_)
  rw [nm_s, e12, e2, ck_t h.k8]
  refine r_newName (2 + l) (by omega) h (fun x hx => dw.nam hl hx) (fun e Q q => ?_) (fun x Q h => ?_)
  · rw [if_pos (by decide)]; exact Ok_some.mpr (h0 e Q q)
  rw [if_neg (by decide), ck_t h.k8, aj0]
  refine r_worded 2603155 (12 + 7 * l + 0) 1 60 (by omega) (by omega) (by omega) (by omega) (by omega) h (fun y b1 b2 => h.2.2.2.2.2.2.1.fld (j := 0) hl (by omega) ⟨b1, b2⟩) (fun e Q q => ?_) (fun x0 f Q h => ?_)
  · rw [if_pos (by decide)]; exact Ok_some.mpr (h0 e Q q)
  rw [if_neg (by decide), ck_t h.k8, aj1]
  refine r_worded 16434 (12 + 7 * l + 1) 1 999 (by omega) (by omega) (by omega) (by omega) (by omega) h (fun y b1 b2 => h.2.2.2.2.2.2.1.fld (j := 1) hl (by omega) ⟨b1, b2⟩) (fun e Q q => ?_) (fun x1 f Q h => ?_)
  · rw [if_pos (by decide)]; exact Ok_some.mpr (h0 e Q q)
  rw [if_neg (by decide), ck_t h.k8, aj2]
  refine r_worded 117096942 (12 + 7 * l + 2) 0 99 (by omega) (by omega) (by omega) (by omega) (by omega) h (fun y b1 b2 => h.2.2.2.2.2.2.1.fld (j := 2) hl (by omega) ⟨b1, b2⟩) (fun e Q q => ?_) (fun x2 f Q h => ?_)
  · rw [if_pos (by decide)]; exact Ok_some.mpr (h0 e Q q)
  rw [if_neg (by decide), ck_t h.k8, aj3]
  refine r_worded 26379859 (12 + 7 * l + 3) 1 20 (by omega) (by omega) (by omega) (by omega) (by omega) h (fun y b1 b2 => h.2.2.2.2.2.2.1.fld (j := 3) hl (by omega) ⟨b1, b2⟩) (fun e Q q => ?_) (fun x3 f Q h => ?_)
  · rw [if_pos (by decide)]; exact Ok_some.mpr (h0 e Q q)
  rw [if_neg (by decide), ck_t h.k8]
  refine r_plan h hl (fun e Q q => ?_) (fun f T Q h => ?_)
  · rw [if_neg (by decide)]; exact Ok_some.mpr (h0 e Q q)
  have dw := h.2.2.2.2.2.2.1
  have d6 : DW (upN T (12 + 7 * l + 6) 20) S l 8 g 0 := dw.fld (j := 6) hl (by omega) ⟨by decide, by decide⟩
  have h6 : RP B n tp P0 f0 f (upN T (12 + 7 * l + 6) 20) S l 8 g 0 (sI Q (B + 62) (12 + 7 * l + 6) (20 : Int32)) := h.wT (q := 12 + 7 * l + 6) (y := 20) (by omega) d6
  rw [if_pos (by decide), ck_t h.k8, h.r12, bR_s, aj6, ck_t (h.i62 (by omega)), nm_s, sIc (by omega), ck_t h6.k8, r_s8 h6.1 h6.2.1, bd_s, pLapse]
  by_cases e8 : wdT n tp f = 12632677
  · rw [if_pos e8, if_pos e8, if_neg (by decide), ck_t h6.k8]
    have := r_worded (k := fun x f => k f (upN (upN T (12 + 7 * l + 6) x) 0 (l + 1)) (upN S (1207 + l) (l + 1))) (kc := fun v22 M21 => if ¬ v22 = 0 then f_X8_loanLine_155 (B + 59) (nI l) M21 else some ((0 : Int32), M21)) (Ψ := Ψ) 12632677 (12 + 7 * l + 6) 1 20 (by omega) (by omega) (by omega) (by omega) (by omega) h6 (w2 := 8) (v2 := 0) (fun y b1 b2 => by rw [upN_2]; exact dw.fld (j := 6) hl (by omega) ⟨b1, b2⟩) (fun e Q q => by rw [if_neg (by decide)]; exact Ok_some.mpr (h0 e Q q)) (fun y f Q h => by
      rw [upN_2] at h
      rw [if_pos (by decide)]
      exact r_155 h hl (fun Q q => h1 _ _ _ _ q))
    rw [oW, if_pos e8] at this
    exact this
  · rw [if_neg e8, if_neg e8, if_pos (by decide)]
    exact r_155 h6 hl (fun Q q => h1 _ _ _ _ q)
theorem r_holderLine {k : Nat → Td → Td → Ou} {Ψ : Ou → Int32 → Mm → Prop} (h : RP B n tp P0 f0 f T S l 0 g 0 P) (h0 : ∀ e Q, Fr B P0 e Q → Ψ (.inl e) (nI 0) Q) (h1 : ∀ f T S Q, RP B n tp P0 f0 f T S l 0 (g + 1) 0 Q → Ψ (k f T S) (nI 1) Q) : Ok (f_X8_holderLine (B + 59) P) (Ψ (pHolder n tp f T S l g k)) := by
  have dw := h.2.2.2.2.2.2.1
  have hb := dw.b
  have e0 : gI P (B + 62) ((1 : Int32)).toNatClampNeg = nI g := by
    have := h.2.2.2.1 1 (by omega)
    rw [dw.2.1] at this; exact this
  have i0 : gK P (B + 62) = 10 ∧ inb (1 : Int32) (gN P (B + 62)) := h.i62 (q := 1) (by omega)
  have e2 : (6 : Int32) + nI g = nI (6 + g) := nI_add _ _
  have e3 : (1200 : Int32) + nI g = nI (1200 + g) := nI_add _ _
  rw [f_X8_holderLine, ck_t h.k8, h.r12, bR_s, ck_t i0, nm_s, e0, pHolder]
  by_cases e4 : g = 6
  · rw [if_pos e4, if_neg (not_not_intro (show nI g = (6 : Int32) by rw [e4]; rfl)), ck_t h.k8]
    exact r_bad 5 h (fun N q => ok_01 (Or.inl rfl) (h0 _ N q))
  have hg : g < 6 := by omega
  rw [if_neg e4, if_pos (by rw [show (6 : Int32) = nI 6 from rfl, nI_eq (by omega) (by omega)]; exact e4), ck_t h.k8]
  refine r_go2 h (fun Q h _ => ?_)
  rw [e2, e3, ck_t h.k8]
  refine r_newName (6 + g) (by omega) h (fun x hx => dw.hnm hg hx) (fun e Q q => ?_) (fun x Q h => ?_)
  · rw [if_pos (by decide)]; exact Ok_some.mpr (h0 e Q q)
  rw [if_neg (by decide), ck_t h.k8]
  refine r_takes 99944 (by omega) (by omega) h (fun e Q q => ?_) (fun Q h _ => ?_)
  · rw [if_pos (by decide)]; exact Ok_some.mpr (h0 e Q q)
  rw [if_neg (by decide), ck_t h.k8]
  refine r_number 0 99999 (by omega) (by omega) h (fun e Q q => ?_) (fun y Q b1 b2 e10 h => ?_)
  · rw [if_neg (by decide)]; exact Ok_some.mpr (h0 e Q q)
  have dw := h.2.2.2.2.2.2.1
  have h2 := h.wS (q := 1200 + g) (y := y) (by omega) (dw.csh hg b2)
  have h3 := h2.wT (q := 1) (y := g + 1) (by omega) ((dw.csh hg b2).hol hg)
  have e1 : gI (sI Q (B + 64) (1200 + g) (nI y)) (B + 62) ((1 : Int32)).toNatClampNeg = nI g := by
    have := h2.2.2.2.1 1 (by omega)
    rw [dw.2.1] at this; exact this
  have i1 : gK (sI Q (B + 64) (1200 + g) (nI y)) (B + 62) = 10 ∧ inb (1 : Int32) (gN (sI Q (B + 64) (1200 + g) (nI y)) (B + 62)) := h2.i62 (q := 1) (by omega)
  rw [if_pos (by decide), ck_t h.k8, h.r18, bR_s, ck_t h.k8, ck_t (h.i64 (by omega)), nm_s, sIc (by omega), e10, ck_t h2.k8, h2.r12, bR_s, ck_t i1, ck_t i1, nm_s, e1, nI_1]
  exact Ok_some.mpr (h1 _ _ _ _ h3)
end TY8
