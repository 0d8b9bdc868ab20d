/-! the law's loop, out of one theorem a call; those that are still wanting stand in AllPr -/
def PF_feed : Prop := ∀ (B c : Nat), c + 1 ≤ 600 → ∀ x y z u v : Int32, Pr B c (f_X7_feed B x y z u v) (f_X8_feed (B + 59) x y z u v)
def PF_text : Prop := ∀ (B c : Nat), c + 1 ≤ 600 → ∀ x : Int32, Pr B c (f_X7_text B x) (f_X8_text (B + 59) x)
def PF_year : Prop := ∀ (B c : Nat), c + 1 ≤ 600 → Pr B c (f_X7_year B) (f_X8_year (B + 59))
def PF_claim : Prop := ∀ (B c : Nat), c + 1 ≤ 600 → ∀ x y : Int32, Pr B c (f_X7_claim B x y) (f_X8_claim (B + 59) x y)
def PF_sell : Prop := ∀ (B c : Nat), c + 1 ≤ 600 → ∀ x y z u : Int32, Pr B c (f_X7_sell B x y z u) (f_X8_sell (B + 59) x y z u)
def PF_put : Prop := ∀ (B c : Nat), c + 1 ≤ 600 → ∀ x y : Int32, Pr B c (f_X7_put B x y) (f_X8_put (B + 59) x y)
def PF_priced : Prop := ∀ (B c : Nat), c + 1 ≤ 600 → ∀ x y z : Int32, Pr B c (f_X7_priced B x y z) (f_X8_priced (B + 59) x y z)
def PF_wheel : Prop := ∀ (B c : Nat), c + 1 ≤ 600 → ∀ x y : Int32, Pr B c (f_X7_wheel B x y) (f_X8_wheel (B + 59) x y)
def PF_image : Prop := ∀ (B c : Nat), c + 1 ≤ 600 → ∀ x y : Int32, (y = 0 ∨ y = 1) → Pr B c (f_X7_image B x y) (f_X8_image (B + 59) x y)
def PF_row : Prop := ∀ (B c : Nat), c + 1 ≤ 600 → ∀ x y z : Int32, Pr B c (f_X7_row B x y z) (f_X8_row (B + 59) x y z)
def PF_toPay : Prop := ∀ (B c : Nat), c + 1 ≤ 600 → ∀ x : Int32, Pr B c (f_X7_toPay B x) (f_X8_toPay (B + 59) x)
def PF_odds : Prop := ∀ (B c : Nat), c + 1 ≤ 600 → ∀ x y : Int32, Pr B c (f_X7_odds B x y) (f_X8_odds (B + 59) x y)
def PF_worth : Prop := ∀ (B c : Nat), c + 1 ≤ 600 → ∀ x y : Int32, Pr B c (f_X7_worth B x y) (f_X8_worth (B + 59) x y)
def PF_life : Prop := ∀ (B c : Nat), c + 1 ≤ 600 → ∀ x : Int32, Pr B c (f_X7_life B x) (f_X8_life (B + 59) x)
def PF_half : Prop := ∀ (B c : Nat), c + 1 ≤ 600 → ∀ x : Int32, Pr B c (f_X7_half B x) (f_X8_half (B + 59) x)
def PF_yields : Prop := ∀ (B c : Nat), c + 1 ≤ 600 → ∀ x y : Int32, Pr B c (f_X7_yields B x y) (f_X8_yields (B + 59) x y)
def PF_atLeast : Prop := ∀ (B c : Nat), c + 1 ≤ 600 → ∀ x y z : Int32, Pr B c (f_X7_atLeast B x y z) (f_X8_atLeast (B + 59) x y z)
def PF_lasting : Prop := ∀ (B c : Nat), c + 1 ≤ 600 → ∀ x y : Int32, Pr B c (f_X7_lasting B x y) (f_X8_lasting (B + 59) x y)
def PF_ifPrice : Prop := ∀ (B c : Nat), c + 1 ≤ 600 → ∀ x y z u : Int32, Pr B c (f_X7_ifPrice B x y z u) (f_X8_ifPrice (B + 59) x y z u)
def PF_needs : Prop := ∀ (B c : Nat), c + 1 ≤ 600 → ∀ x y : Int32, Pr B c (f_X7_needs B x y) (f_X8_needs (B + 59) x y)
def PF_replayed : Prop := ∀ (B c : Nat), c + 1 ≤ 600 → ∀ x y z : Int32, Pr B c (f_X7_replayed B x y z) (f_X8_replayed (B + 59) x y z)
def PF_mean : Prop := ∀ (B c : Nat), c + 1 ≤ 600 → ∀ x : Int32, Pr B c (f_X7_mean B x) (f_X8_mean (B + 59) x)
def PF_unlucky : Prop := ∀ (B c : Nat), c + 1 ≤ 600 → ∀ x : Int32, Pr B c (f_X7_unlucky B x) (f_X8_unlucky (B + 59) x)
def AllPr : Prop := PF_feed ∧ PF_text ∧ PF_year ∧ PF_claim ∧ PF_sell ∧ PF_put ∧ PF_priced ∧ PF_wheel ∧ PF_image ∧ PF_row ∧ PF_toPay ∧ PF_odds ∧ PF_worth ∧ PF_life ∧ PF_half ∧ PF_yields ∧ PF_atLeast ∧ PF_lasting ∧ PF_ifPrice ∧ PF_needs ∧ PF_replayed ∧ PF_mean ∧ PF_unlucky
section LOOP
variable {B L i : Nat} {xs : Nat → Int32} {M : Mm} {r : Mm → Option (Int32 × Mm)}
theorem ck_inb {α : Type} {j L : Nat} {d : Decidable (inb (nI j) L)} {q : Option α} (h : j < L) (hL : L < 2147483648) : @ck α (inb (nI j) L) d q = q := if_pos ((inb_nI h hL).mpr trivial)
theorem lc_two {α : Type} [DecidableEq α] {fx fm : Mm → Option (α × Mm)} (h : Pr B i fx fm) (hI : Inv B i M) (hr : ∀ P, Inv B (i + 1) P → ∃ M', r P = some (nI 1, M')) : ∃ M', ck (gK M B = 7) (bd (fx M) fun v N => ck (gK N (B + 59) = 8) (bd (fm N) fun w P => if v = w then r P else none)) = some (nI 1, M') := by
  obtain ⟨v, N, e1, hk, w, P, e2, hvw, hP⟩ := h M hI
  obtain ⟨t, T, S, fed, tp, nd, D, im, G, h1, -⟩ := hI
  obtain ⟨M', hM⟩ := hr P hP
  refine ⟨M', ?_⟩
  rw [ck_t (show gK M B = 7 from h1.1.1), e1, bd_s, ck_t (show gK N (B + 59) = 8 from hk), e2, bd_s, if_pos hvw]
  exact hM
theorem lc_0 (hA : AllPr) (hI : Inv B i M) (hi : 6 * i + 5 < L) (hL : L ≤ 3072) (hr : ∀ P, Inv B (i + 1) P → ∃ M2, r P = some (nI 1, M2)) : ∃ M2, f_law_c0 xs L B (B + 59) (B + 70) (nI (6 * i)) r M = some (nI 1, M2) := by
  simp (disch := omega) only [f_law_c0, fa_lit, nI_add, ck_inb, nI_clamp]
  exact lc_two (hA.1 B i (by omega) _ _ _ _ _) hI hr
theorem lc_1 (hA : AllPr) (hI : Inv B i M) (hi : 6 * i + 5 < L) (hL : L ≤ 3072) (hr : ∀ P, Inv B (i + 1) P → ∃ M2, r P = some (nI 1, M2)) : ∃ M2, f_law_c1 xs L B (B + 59) (B + 70) (nI (6 * i)) r M = some (nI 1, M2) := by
  simp (disch := omega) only [f_law_c1, fa_lit, nI_add, ck_inb, nI_clamp]
  exact lc_two (hA.2.1 B i (by omega) _) hI hr
theorem lc_2 (hA : AllPr) (hI : Inv B i M) (hi : 6 * i + 5 < L) (hL : L ≤ 3072) (hr : ∀ P, Inv B (i + 1) P → ∃ M2, r P = some (nI 1, M2)) : ∃ M2, f_law_c2 xs L B (B + 59) (B + 70) (nI (6 * i)) r M = some (nI 1, M2) := by
  simp (disch := omega) only [f_law_c2, fa_lit, nI_add, ck_inb, nI_clamp]
  exact lc_two (pr_count (by omega)) hI hr
theorem lc_3 (hA : AllPr) (hI : Inv B i M) (hi : 6 * i + 5 < L) (hL : L ≤ 3072) (hr : ∀ P, Inv B (i + 1) P → ∃ M2, r P = some (nI 1, M2)) : ∃ M2, f_law_c3 xs L B (B + 59) (B + 70) (nI (6 * i)) r M = some (nI 1, M2) := by
  obtain ⟨v, N, e1, hk, w, P, e2, k1, k2, k3, k4, k5, hP⟩ := pr_loan (x := xs (6 * i + 1)) (y := xs (6 * i + 2)) (by omega) hI
  obtain ⟨M', hM⟩ := hr P hP
  refine ⟨M', ?_⟩
  simp (disch := omega) only [f_law_c3, fa_lit, nI_add, ck_inb, nI_clamp]
  rw [e1, bd_s, ck_t (show gK N (B + 59) = 8 from hk), e2, bd_s, ck_t (show gK P (B + 59) = 8 from k1)]
  have e3 : f_X8_thrown (B + 59) P = some (v, P) := by
    unfold f_X8_thrown
    rw [ck_t (show gK P (B + 59) = 8 from k1)]
    show some (P.1 (B + 59) 0, P) = _
    rw [k2]
  rw [e3, bd_s, if_pos rfl]
  by_cases hv : v = nI 0
  · rw [if_neg (fun h => h hv), ck_t (show gK P (B + 70) = 13 ∧ inb (nI 0) (gN P (B + 70)) from ⟨k4, by show inb (nI 0) (P.2.2.2.2.1 (B + 70)); rw [k5]; exact (inb_nI (by omega) (by omega)).mpr trivial⟩), if_pos (show gL P (B + 70) 0 = w.toInt64 from k3 hv)]
    exact hM
  · rw [if_pos hv]
    exact hM
theorem lc_4 (hA : AllPr) (hI : Inv B i M) (hi : 6 * i + 5 < L) (hL : L ≤ 3072) (hr : ∀ P, Inv B (i + 1) P → ∃ M2, r P = some (nI 1, M2)) : ∃ M2, f_law_c4 xs L B (B + 59) (B + 70) (nI (6 * i)) r M = some (nI 1, M2) := by
  simp (disch := omega) only [f_law_c4, fa_lit, nI_add, ck_inb, nI_clamp]
  exact lc_two (pr_cash (by omega)) hI hr
theorem lc_5 (hA : AllPr) (hI : Inv B i M) (hi : 6 * i + 5 < L) (hL : L ≤ 3072) (hr : ∀ P, Inv B (i + 1) P → ∃ M2, r P = some (nI 1, M2)) : ∃ M2, f_law_c5 xs L B (B + 59) (B + 70) (nI (6 * i)) r M = some (nI 1, M2) := by
  simp (disch := omega) only [f_law_c5, fa_lit, nI_add, ck_inb, nI_clamp]
  exact lc_two (pr_held (by omega)) hI hr
theorem lc_6 (hA : AllPr) (hI : Inv B i M) (hi : 6 * i + 5 < L) (hL : L ≤ 3072) (hr : ∀ P, Inv B (i + 1) P → ∃ M2, r P = some (nI 1, M2)) : ∃ M2, f_law_c6 xs L B (B + 59) (B + 70) (nI (6 * i)) r M = some (nI 1, M2) := by
  simp (disch := omega) only [f_law_c6, fa_lit, nI_add, ck_inb, nI_clamp]
  exact lc_two (pr_bond (by omega)) hI hr
theorem lc_7 (hA : AllPr) (hI : Inv B i M) (hi : 6 * i + 5 < L) (hL : L ≤ 3072) (hr : ∀ P, Inv B (i + 1) P → ∃ M2, r P = some (nI 1, M2)) : ∃ M2, f_law_c7 xs L B (B + 59) (B + 70) (nI (6 * i)) r M = some (nI 1, M2) := by
  simp (disch := omega) only [f_law_c7, fa_lit, nI_add, ck_inb, nI_clamp]
  exact lc_two (pr_standing (by omega)) hI hr
theorem lc_8 (hA : AllPr) (hI : Inv B i M) (hi : 6 * i + 5 < L) (hL : L ≤ 3072) (hr : ∀ P, Inv B (i + 1) P → ∃ M2, r P = some (nI 1, M2)) : ∃ M2, f_law_c8 xs L B (B + 59) (B + 70) (nI (6 * i)) r M = some (nI 1, M2) := by
  simp (disch := omega) only [f_law_c8, fa_lit, nI_add, ck_inb, nI_clamp]
  exact lc_two (pr_price (by omega)) hI hr
theorem lc_9 (hA : AllPr) (hI : Inv B i M) (hi : 6 * i + 5 < L) (hL : L ≤ 3072) (hr : ∀ P, Inv B (i + 1) P → ∃ M2, r P = some (nI 1, M2)) : ∃ M2, f_law_c9 xs L B (B + 59) (B + 70) (nI (6 * i)) r M = some (nI 1, M2) := by
  simp (disch := omega) only [f_law_c9, fa_lit, nI_add, ck_inb, nI_clamp]
  exact lc_two (hA.2.2.1 B i (by omega)) hI hr
theorem lc_10 (hA : AllPr) (hI : Inv B i M) (hi : 6 * i + 5 < L) (hL : L ≤ 3072) (hr : ∀ P, Inv B (i + 1) P → ∃ M2, r P = some (nI 1, M2)) : ∃ M2, f_law_c10 xs L B (B + 59) (B + 70) (nI (6 * i)) r M = some (nI 1, M2) := by
  simp (disch := omega) only [f_law_c10, fa_lit, nI_add, ck_inb, nI_clamp]
  exact lc_two (hA.2.2.2.1 B i (by omega) _ _) hI hr
theorem lc_11 (hA : AllPr) (hI : Inv B i M) (hi : 6 * i + 5 < L) (hL : L ≤ 3072) (hr : ∀ P, Inv B (i + 1) P → ∃ M2, r P = some (nI 1, M2)) : ∃ M2, f_law_c11 xs L B (B + 59) (B + 70) (nI (6 * i)) r M = some (nI 1, M2) := by
  simp (disch := omega) only [f_law_c11, fa_lit, nI_add, ck_inb, nI_clamp]
  exact lc_two (hA.2.2.2.2.1 B i (by omega) _ _ _ _) hI hr
theorem lc_12 (hA : AllPr) (hI : Inv B i M) (hi : 6 * i + 5 < L) (hL : L ≤ 3072) (hr : ∀ P, Inv B (i + 1) P → ∃ M2, r P = some (nI 1, M2)) : ∃ M2, f_law_c12 xs L B (B + 59) (B + 70) (nI (6 * i)) r M = some (nI 1, M2) := by
  simp (disch := omega) only [f_law_c12, fa_lit, nI_add, ck_inb, nI_clamp]
  exact lc_two (hA.2.2.2.2.2.1 B i (by omega) _ _) hI hr
theorem lc_13 (hA : AllPr) (hI : Inv B i M) (hi : 6 * i + 5 < L) (hL : L ≤ 3072) (hr : ∀ P, Inv B (i + 1) P → ∃ M2, r P = some (nI 1, M2)) : ∃ M2, f_law_c13 xs L B (B + 59) (B + 70) (nI (6 * i)) r M = some (nI 1, M2) := by
  simp (disch := omega) only [f_law_c13, fa_lit, nI_add, ck_inb, nI_clamp]
  exact lc_two (hA.2.2.2.2.2.2.1 B i (by omega) _ _ _) hI hr
theorem lc_14 (hA : AllPr) (hI : Inv B i M) (hi : 6 * i + 5 < L) (hL : L ≤ 3072) (hr : ∀ P, Inv B (i + 1) P → ∃ M2, r P = some (nI 1, M2)) : ∃ M2, f_law_c14 xs L B (B + 59) (B + 70) (nI (6 * i)) r M = some (nI 1, M2) := by
  simp (disch := omega) only [f_law_c14, fa_lit, nI_add, ck_inb, nI_clamp]
  exact lc_two (hA.2.2.2.2.2.2.2.1 B i (by omega) _ _) hI hr
theorem lc_15 (hA : AllPr) (hI : Inv B i M) (hi : 6 * i + 5 < L) (hL : L ≤ 3072) (hr : ∀ P, Inv B (i + 1) P → ∃ M2, r P = some (nI 1, M2)) : ∃ M2, f_law_c15 xs L B (B + 59) (B + 70) (nI (6 * i)) r M = some (nI 1, M2) := by
  simp (disch := omega) only [f_law_c15, fa_lit, nI_add, ck_inb, nI_clamp]
  exact lc_two (pr_undo (by omega)) hI hr
theorem lc_16 (hA : AllPr) (hI : Inv B i M) (hi : 6 * i + 5 < L) (hL : L ≤ 3072) (hr : ∀ P, Inv B (i + 1) P → ∃ M2, r P = some (nI 1, M2)) : ∃ M2, f_law_c16 xs L B (B + 59) (B + 70) (nI (6 * i)) r M = some (nI 1, M2) := by
  by_cases hx : xs (6 * i + 2) = nI 0
  · have q := lc_two (hA.2.2.2.2.2.2.2.2.1 B i (by omega) (xs (6 * i + 1)) 0 (Or.inl rfl)) hI hr
    simp (disch := omega) only [f_law_c16, fa_lit, nI_add, ck_inb, nI_clamp, hx, ite_true] at q ⊢
    exact q
  · have q := lc_two (hA.2.2.2.2.2.2.2.2.1 B i (by omega) (xs (6 * i + 1)) 1 (Or.inr rfl)) hI hr
    simp (disch := omega) only [f_law_c16, fa_lit, nI_add, ck_inb, nI_clamp, hx, ite_false] at q ⊢
    exact q
theorem lc_17 (hA : AllPr) (hI : Inv B i M) (hi : 6 * i + 5 < L) (hL : L ≤ 3072) (hr : ∀ P, Inv B (i + 1) P → ∃ M2, r P = some (nI 1, M2)) : ∃ M2, f_law_c17 xs L B (B + 59) (B + 70) (nI (6 * i)) r M = some (nI 1, M2) := by
  simp (disch := omega) only [f_law_c17, fa_lit, nI_add, ck_inb, nI_clamp]
  exact lc_two (hA.2.2.2.2.2.2.2.2.2.1 B i (by omega) _ _ _) hI hr
theorem lc_18 (hA : AllPr) (hI : Inv B i M) (hi : 6 * i + 5 < L) (hL : L ≤ 3072) (hr : ∀ P, Inv B (i + 1) P → ∃ M2, r P = some (nI 1, M2)) : ∃ M2, f_law_c18 xs L B (B + 59) (B + 70) (nI (6 * i)) r M = some (nI 1, M2) := by
  simp (disch := omega) only [f_law_c18, fa_lit, nI_add, ck_inb, nI_clamp]
  exact lc_two (hA.2.2.2.2.2.2.2.2.2.2.1 B i (by omega) _) hI hr
theorem lc_19 (hA : AllPr) (hI : Inv B i M) (hi : 6 * i + 5 < L) (hL : L ≤ 3072) (hr : ∀ P, Inv B (i + 1) P → ∃ M2, r P = some (nI 1, M2)) : ∃ M2, f_law_c19 xs L B (B + 59) (B + 70) (nI (6 * i)) r M = some (nI 1, M2) := by
  simp (disch := omega) only [f_law_c19, fa_lit, nI_add, ck_inb, nI_clamp]
  exact lc_two (hA.2.2.2.2.2.2.2.2.2.2.2.1 B i (by omega) _ _) hI hr
theorem lc_20 (hA : AllPr) (hI : Inv B i M) (hi : 6 * i + 5 < L) (hL : L ≤ 3072) (hr : ∀ P, Inv B (i + 1) P → ∃ M2, r P = some (nI 1, M2)) : ∃ M2, f_law_c20 xs L B (B + 59) (B + 70) (nI (6 * i)) r M = some (nI 1, M2) := by
  simp (disch := omega) only [f_law_c20, fa_lit, nI_add, ck_inb, nI_clamp]
  exact lc_two (hA.2.2.2.2.2.2.2.2.2.2.2.2.1 B i (by omega) _ _) hI hr
theorem lc_21 (hA : AllPr) (hI : Inv B i M) (hi : 6 * i + 5 < L) (hL : L ≤ 3072) (hr : ∀ P, Inv B (i + 1) P → ∃ M2, r P = some (nI 1, M2)) : ∃ M2, f_law_c21 xs L B (B + 59) (B + 70) (nI (6 * i)) r M = some (nI 1, M2) := by
  simp (disch := omega) only [f_law_c21, fa_lit, nI_add, ck_inb, nI_clamp]
  exact lc_two (hA.2.2.2.2.2.2.2.2.2.2.2.2.2.1 B i (by omega) _) hI hr
theorem lc_22 (hA : AllPr) (hI : Inv B i M) (hi : 6 * i + 5 < L) (hL : L ≤ 3072) (hr : ∀ P, Inv B (i + 1) P → ∃ M2, r P = some (nI 1, M2)) : ∃ M2, f_law_c22 xs L B (B + 59) (B + 70) (nI (6 * i)) r M = some (nI 1, M2) := by
  simp (disch := omega) only [f_law_c22, fa_lit, nI_add, ck_inb, nI_clamp]
  exact lc_two (hA.2.2.2.2.2.2.2.2.2.2.2.2.2.2.1 B i (by omega) _) hI hr
theorem lc_23 (hA : AllPr) (hI : Inv B i M) (hi : 6 * i + 5 < L) (hL : L ≤ 3072) (hr : ∀ P, Inv B (i + 1) P → ∃ M2, r P = some (nI 1, M2)) : ∃ M2, f_law_c23 xs L B (B + 59) (B + 70) (nI (6 * i)) r M = some (nI 1, M2) := by
  simp (disch := omega) only [f_law_c23, fa_lit, nI_add, ck_inb, nI_clamp]
  exact lc_two (hA.2.2.2.2.2.2.2.2.2.2.2.2.2.2.2.1 B i (by omega) _ _) hI hr
theorem lc_24 (hA : AllPr) (hI : Inv B i M) (hi : 6 * i + 5 < L) (hL : L ≤ 3072) (hr : ∀ P, Inv B (i + 1) P → ∃ M2, r P = some (nI 1, M2)) : ∃ M2, f_law_c24 xs L B (B + 59) (B + 70) (nI (6 * i)) r M = some (nI 1, M2) := by
  simp (disch := omega) only [f_law_c24, fa_lit, nI_add, ck_inb, nI_clamp]
  exact lc_two (hA.2.2.2.2.2.2.2.2.2.2.2.2.2.2.2.2.1 B i (by omega) _ _ _) hI hr
theorem lc_25 (hA : AllPr) (hI : Inv B i M) (hi : 6 * i + 5 < L) (hL : L ≤ 3072) (hr : ∀ P, Inv B (i + 1) P → ∃ M2, r P = some (nI 1, M2)) : ∃ M2, f_law_c25 xs L B (B + 59) (B + 70) (nI (6 * i)) r M = some (nI 1, M2) := by
  simp (disch := omega) only [f_law_c25, fa_lit, nI_add, ck_inb, nI_clamp]
  exact lc_two (hA.2.2.2.2.2.2.2.2.2.2.2.2.2.2.2.2.2.1 B i (by omega) _ _) hI hr
theorem lc_26 (hA : AllPr) (hI : Inv B i M) (hi : 6 * i + 5 < L) (hL : L ≤ 3072) (hr : ∀ P, Inv B (i + 1) P → ∃ M2, r P = some (nI 1, M2)) : ∃ M2, f_law_c26 xs L B (B + 59) (B + 70) (nI (6 * i)) r M = some (nI 1, M2) := by
  simp (disch := omega) only [f_law_c26, fa_lit, nI_add, ck_inb, nI_clamp]
  exact lc_two (pr_below (by omega)) hI hr
theorem lc_27 (hA : AllPr) (hI : Inv B i M) (hi : 6 * i + 5 < L) (hL : L ≤ 3072) (hr : ∀ P, Inv B (i + 1) P → ∃ M2, r P = some (nI 1, M2)) : ∃ M2, f_law_c27 xs L B (B + 59) (B + 70) (nI (6 * i)) r M = some (nI 1, M2) := by
  simp (disch := omega) only [f_law_c27, fa_lit, nI_add, ck_inb, nI_clamp]
  exact lc_two (hA.2.2.2.2.2.2.2.2.2.2.2.2.2.2.2.2.2.2.1 B i (by omega) _ _ _ _) hI hr
theorem lc_28 (hA : AllPr) (hI : Inv B i M) (hi : 6 * i + 5 < L) (hL : L ≤ 3072) (hr : ∀ P, Inv B (i + 1) P → ∃ M2, r P = some (nI 1, M2)) : ∃ M2, f_law_c28 xs L B (B + 59) (B + 70) (nI (6 * i)) r M = some (nI 1, M2) := by
  simp (disch := omega) only [f_law_c28, fa_lit, nI_add, ck_inb, nI_clamp]
  exact lc_two (hA.2.2.2.2.2.2.2.2.2.2.2.2.2.2.2.2.2.2.2.1 B i (by omega) _ _) hI hr
theorem lc_29 (hA : AllPr) (hI : Inv B i M) (hi : 6 * i + 5 < L) (hL : L ≤ 3072) (hr : ∀ P, Inv B (i + 1) P → ∃ M2, r P = some (nI 1, M2)) : ∃ M2, f_law_c29 xs L B (B + 59) (B + 70) (nI (6 * i)) r M = some (nI 1, M2) := by
  simp (disch := omega) only [f_law_c29, fa_lit, nI_add, ck_inb, nI_clamp]
  exact lc_two (pr_lot (by omega)) hI hr
theorem lc_30 (hA : AllPr) (hI : Inv B i M) (hi : 6 * i + 5 < L) (hL : L ≤ 3072) (hr : ∀ P, Inv B (i + 1) P → ∃ M2, r P = some (nI 1, M2)) : ∃ M2, f_law_c30 xs L B (B + 59) (B + 70) (nI (6 * i)) r M = some (nI 1, M2) := by
  simp (disch := omega) only [f_law_c30, fa_lit, nI_add, ck_inb, nI_clamp]
  exact lc_two (hA.2.2.2.2.2.2.2.2.2.2.2.2.2.2.2.2.2.2.2.2.1 B i (by omega) _ _ _) hI hr
theorem lc_31 (hA : AllPr) (hI : Inv B i M) (hi : 6 * i + 5 < L) (hL : L ≤ 3072) (hr : ∀ P, Inv B (i + 1) P → ∃ M2, r P = some (nI 1, M2)) : ∃ M2, f_law_c31 xs L B (B + 59) (B + 70) (nI (6 * i)) r M = some (nI 1, M2) := by
  simp (disch := omega) only [f_law_c31, fa_lit, nI_add, ck_inb, nI_clamp]
  exact lc_two (pr_lastOne (by omega)) hI hr
theorem lc_32 (hA : AllPr) (hI : Inv B i M) (hi : 6 * i + 5 < L) (hL : L ≤ 3072) (hr : ∀ P, Inv B (i + 1) P → ∃ M2, r P = some (nI 1, M2)) : ∃ M2, f_law_c32 xs L B (B + 59) (B + 70) (nI (6 * i)) r M = some (nI 1, M2) := by
  simp (disch := omega) only [f_law_c32, fa_lit, nI_add, ck_inb, nI_clamp]
  exact lc_two (hA.2.2.2.2.2.2.2.2.2.2.2.2.2.2.2.2.2.2.2.2.2.1 B i (by omega) _) hI hr
theorem lc_33 (hA : AllPr) (hI : Inv B i M) (hi : 6 * i + 5 < L) (hL : L ≤ 3072) (hr : ∀ P, Inv B (i + 1) P → ∃ M2, r P = some (nI 1, M2)) : ∃ M2, f_law_c33 xs L B (B + 59) (B + 70) (nI (6 * i)) r M = some (nI 1, M2) := by
  simp (disch := omega) only [f_law_c33, fa_lit, nI_add, ck_inb, nI_clamp]
  exact lc_two (hA.2.2.2.2.2.2.2.2.2.2.2.2.2.2.2.2.2.2.2.2.2.2 B i (by omega) _) hI hr
theorem lc_34 (hA : AllPr) (hI : Inv B i M) (hi : 6 * i + 5 < L) (hL : L ≤ 3072) (hr : ∀ P, Inv B (i + 1) P → ∃ M2, r P = some (nI 1, M2)) : ∃ M2, f_law_c34 xs L B (B + 59) (B + 70) (nI (6 * i)) r M = some (nI 1, M2) := by
  simp (disch := omega) only [f_law_c34, fa_lit, nI_add, ck_inb, nI_clamp]
  exact lc_two (pr_paid (by omega)) hI hr
theorem ite_ex {c : Prop} [Decidable c] {a b : Option (Int32 × Mm)} (h1 : ∃ M2, a = some (nI 1, M2)) (h2 : ∃ M2, b = some (nI 1, M2)) : ∃ M2, (if c then a else b) = some (nI 1, M2) := by
  by_cases h : c
  · rw [if_pos h]; exact h1
  · rw [if_neg h]; exact h2
theorem sub6 {L i : Nat} (hL : L ≤ 3072) (hi : i ≤ 512) : (nI L - nI 6 < nI (6 * i)) ↔ L < 6 * i + 6 := by
  have h1 : (nI 6).toInt = 6 := by decide
  have h2 := nI_toInt (n := L) (by omega)
  have h3 : (nI L - nI 6).toInt = L - 6 := by rw [fb_subI (by omega) (by omega)]; omega
  rw [fa_lt, h3, nI_toInt (by omega)]
  omega
theorem lc_sw (hA : AllPr) {v : Int32} (hI : Inv B i M) (hi : 6 * i + 5 < L) (hL : L ≤ 3072) (hr : ∀ P, Inv B (i + 1) P → ∃ M2, r P = some (nI 1, M2)) (hr0 : ∃ M2, r M = some (nI 1, M2)) : ∃ M2, f_law_sw v xs L B (B + 59) (B + 70) (nI (6 * i)) r M = some (nI 1, M2) := by
  unfold f_law_sw
  refine ite_ex (lc_0 hA hI hi hL hr) ?_
  refine ite_ex (lc_1 hA hI hi hL hr) ?_
  refine ite_ex (lc_2 hA hI hi hL hr) ?_
  refine ite_ex (lc_3 hA hI hi hL hr) ?_
  refine ite_ex (lc_4 hA hI hi hL hr) ?_
  refine ite_ex (lc_5 hA hI hi hL hr) ?_
  refine ite_ex (lc_6 hA hI hi hL hr) ?_
  refine ite_ex (lc_7 hA hI hi hL hr) ?_
  refine ite_ex (lc_8 hA hI hi hL hr) ?_
  refine ite_ex (lc_9 hA hI hi hL hr) ?_
  refine ite_ex (lc_10 hA hI hi hL hr) ?_
  refine ite_ex (lc_11 hA hI hi hL hr) ?_
  refine ite_ex (lc_12 hA hI hi hL hr) ?_
  refine ite_ex (lc_13 hA hI hi hL hr) ?_
  refine ite_ex (lc_14 hA hI hi hL hr) ?_
  refine ite_ex (lc_15 hA hI hi hL hr) ?_
  refine ite_ex (lc_16 hA hI hi hL hr) ?_
  refine ite_ex (lc_17 hA hI hi hL hr) ?_
  refine ite_ex (lc_18 hA hI hi hL hr) ?_
  refine ite_ex (lc_19 hA hI hi hL hr) ?_
  refine ite_ex (lc_20 hA hI hi hL hr) ?_
  refine ite_ex (lc_21 hA hI hi hL hr) ?_
  refine ite_ex (lc_22 hA hI hi hL hr) ?_
  refine ite_ex (lc_23 hA hI hi hL hr) ?_
  refine ite_ex (lc_24 hA hI hi hL hr) ?_
  refine ite_ex (lc_25 hA hI hi hL hr) ?_
  refine ite_ex (lc_26 hA hI hi hL hr) ?_
  refine ite_ex (lc_27 hA hI hi hL hr) ?_
  refine ite_ex (lc_28 hA hI hi hL hr) ?_
  refine ite_ex (lc_29 hA hI hi hL hr) ?_
  refine ite_ex (lc_30 hA hI hi hL hr) ?_
  refine ite_ex (lc_31 hA hI hi hL hr) ?_
  refine ite_ex (lc_32 hA hI hi hL hr) ?_
  refine ite_ex (lc_33 hA hI hi hL hr) ?_
  refine ite_ex (lc_34 hA hI hi hL hr) ?_
  exact hr0
theorem Inv.mono {B c : Nat} {M : Mm} (h : Inv B c M) (hc : c + 1 ≤ 600) : Inv B (c + 1) M := by
  obtain ⟨t, T, S, fed, tp, nd, D, im, G, h1, h2, h3, h4, h5, h6⟩ := h
  exact inv_q ⟨h1, h2, h3, h4, h5⟩ hc KC.rf KR.rf h6
theorem lc_loop (hA : AllPr) (hL : L ≤ 3072) : ∀ (d i n : Nat) (M : Mm), i + d = 513 → d < n → Inv B i M → ∃ M2, f_law_23 xs L n B (B + 59) (B + 70) (nI (6 * i)) M = some (nI 1, M2) := by
  intro d
  induction d with
  | zero =>
    intro i n M hd hn hI
    obtain ⟨n, rfl⟩ : ∃ m, n = m + 1 := ⟨n - 1, by omega⟩
    have h1 : (nI L - nI 6 < nI (6 * i)) := by
      have h1 : (nI 6).toInt = 6 := by decide
      have h2 := nI_toInt (n := L) (by omega)
      have h3 : (nI L - nI 6).toInt = L - 6 := by rw [fb_subI (by omega) (by omega)]; omega
      rw [fa_lt, h3, nI_toInt (by omega)]
      omega
    refine ⟨M, ?_⟩
    unfold f_law_23
    rw [if_pos (show Int32.ofNat L - 6 < nI (6 * i) from h1)]
    rfl
  | succ d ih =>
    intro i n M hd hn hI
    obtain ⟨n, rfl⟩ : ∃ m, n = m + 1 := ⟨n - 1, by omega⟩
    by_cases hi : L < 6 * i + 6
    · refine ⟨M, ?_⟩
      unfold f_law_23
      rw [if_pos (show Int32.ofNat L - 6 < nI (6 * i) from (sub6 hL (by omega)).mpr hi)]
      rfl
    · have hr : ∀ P, Inv B (i + 1) P → ∃ M2, f_law_23 xs L n B (B + 59) (B + 70) (nI (6 * i) + 6) P = some (nI 1, M2) := fun P hP => by
        have := ih (i + 1) n P (by omega) (by omega) hP
        rw [show nI (6 * i) + 6 = nI (6 * (i + 1)) from by rw [show (6 : Int32) = nI 6 from rfl, nI_add]; rfl]
        exact this
      unfold f_law_23
      rw [if_neg (show ¬ Int32.ofNat L - 6 < nI (6 * i) from fun h => hi ((sub6 hL (by omega)).mp h)), ck_inb (by omega) (by omega)]
      exact lc_sw hA hI (by omega) hL hr (hr M (hI.mono (by omega)))
def InitOk : Prop := ∀ (B L : Nat) (xs : Nat → Int32), ∃ M, f_law xs L (m0 B) = f_law_23 xs L 600 B (B + 59) (B + 70) (nI 0) M ∧ Inv B 0 M
theorem law_of (hA : AllPr) (hi : InitOk) : LawOk := by
  intro B L xs hL
  obtain ⟨M, e, hI⟩ := hi B L xs
  obtain ⟨M2, h⟩ := lc_loop (xs := xs) hA hL 513 0 600 M (by omega) (by omega) hI
  exact ⟨M2, by rw [e]; exact h⟩
end LOOP
