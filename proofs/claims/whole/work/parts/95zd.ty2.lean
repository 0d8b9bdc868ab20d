/-! text: words spelled, names, on both sides -/
def csN (i q : Nat) : Nat := ((sbL.getD i []).getD q 0).toNatClampNeg
theorem cs_ok : ∀ i, i < 14 → snL.getD i 0 ≤ 6 ∧ 0 < snL.getD i 0 ∧ 0 < owL.getD i 0 ∧ owL.getD i 0 < 2 ^ 30 ∧ wvB 32 96 (csN i) 0 (snL.getD i 0) = owL.getD i 0 ∧ ∀ q, q < snL.getD i 0 → (sbL.getD i []).getD q 0 = nI (csN i q) ∧ 97 ≤ csN i q ∧ csN i q ≤ 122 := by decide +kernel
section TY2
variable {B n f i x : Nat} {tp T : Td} {M N P Q : Mm}
theorem c_sp_lp (h : GC B M n tp) (h5 : M.1 (B + 28) 5 = nI f) (hi : i < 14) (hn : f + snL.getD i 0 ≤ n) : ∀ (e j m : Nat), j + e = snL.getD i 0 → e < m → ∃ r, f_X3_spells_28 m (B + 28) i (nI j) M = some (r, M) ∧ ((r = nI 1 ∧ ∀ q, j ≤ q → q < snL.getD i 0 → tp (f + q) = csN i q) ∨ (r = nI 0 ∧ ∃ q, q < snL.getD i 0 ∧ tp (f + q) ≠ csN i q)) := by
  have hD : CmD B M.2.2 := h.1
  have n7 := h.2.2.1
  obtain ⟨c1, c2, -, -, -, c4⟩ := cs_ok i hi
  have el : f_J0_length_8abf5 i M = some (nI (snL.getD i 0), M) := ck_t (by omega)
  generalize hL : snL.getD i 0 = L at *
  have h16 : i < 16 := by omega
  intro e
  induction e with
  | zero =>
    intro j m hj hm
    obtain ⟨m, rfl⟩ : ∃ q, m = q + 1 := ⟨m - 1, by omega⟩
    refine ⟨nI 1, ?_, Or.inl ⟨rfl, fun q a b => by omega⟩⟩
    rw [f_X3_spells_28, ck_t h16, el, bd_s, if_pos ((nI_leI (by omega) (by omega)).mpr (by omega))]
    rfl
  | succ e ih =>
    intro j m hj hm
    obtain ⟨m, rfl⟩ : ∃ q, m = q + 1 := ⟨m - 1, by omega⟩
    have ec : f_J0_charAt_5068e i (nI j) M = some (nI (csN i j), M) := by
      rw [f_J0_charAt_5068e, ck_t ⟨h16, by rw [hL]; exact nI_in (by omega) (by omega)⟩, nI_clamp (by omega), (c4 j (by omega)).1]
    have b := (h.2.2.2 (f + j) (by omega))
    have cb := (c4 j (by omega)).2
    have e0 : ¬ L ≤ j := by omega
    have step : f_X3_spells_28 (m + 1) (B + 28) i (nI j) M = if tp (f + j) = csN i j then f_X3_spells_28 m (B + 28) i (nI (j + 1)) M else some (nI 0, M) := by
      have b1 := b.1
      by_cases eq : tp (f + j) = csN i j
      · simp (disch := omega) only [f_X3_spells_28, h16, el, reduceIte, ↓reduceIte, ↓ck_i, ↓nm_s, ↓bR_i, ↓bd_i, Option.isSome_some, Option.getD_some, gK, gR, gN, gIs, inb_nI, and_self, nI_clamp, fa_lit, pk_mul, nI_add, n10, n1z, n00, eq_self, not_true_eq_false, not_false_eq_true, hD.a, h5, nI_leI, e0, b1, ec, eq]
      · have q : (nI (tp (f + j)) = nI (csN i j)) = False := by rw [nI_eq (by omega) (by omega)]; exact eq_false eq
        simp (disch := omega) only [f_X3_spells_28, h16, el, reduceIte, ↓reduceIte, ↓ck_i, ↓nm_s, ↓bR_i, ↓bd_i, Option.isSome_some, Option.getD_some, gK, gR, gN, gIs, inb_nI, and_self, nI_clamp, fa_lit, pk_mul, nI_add, n10, n1z, n00, eq_self, not_true_eq_false, not_false_eq_true, hD.a, h5, nI_leI, e0, b1, ec, eq, q]
    rw [step]
    by_cases eq : tp (f + j) = csN i j
    · rw [if_pos eq]
      obtain ⟨r, r1, r2⟩ := ih (j + 1) m (by omega) (by omega)
      refine ⟨r, r1, ?_⟩
      rcases r2 with ⟨a1, a2⟩ | a
      · refine Or.inl ⟨a1, fun q q1 q2 => ?_⟩
        by_cases e : q = j
        · rw [e]; exact eq
        · exact a2 q (by omega) q2
      · exact Or.inr a
    · rw [if_neg eq]
      exact ⟨nI 0, rfl, Or.inr ⟨rfl, j, by omega, eq⟩⟩
theorem c_spells (h : GC B M n tp) (ht : TkC B M n tp f) (hf : f ≤ n) (hi : i < 14) : f_X3_spells (B + 28) i M = some (if wdT n tp f = owL.getD i 0 then nI 1 else nI 0, M) := by
  have hD : CmD B M.2.2 := h.1
  have n7 := h.2.2.1
  have k3 : gK M (B + 28) = 3 := by simp (disch := omega) only [reduceIte, ↓reduceIte, ↓ck_i, ↓nm_s, ↓bR_i, ↓bd_i, Option.isSome_some, Option.getD_some, gK, gR, gN, gIs, inb_nI, and_self, nI_clamp, fa_lit, pk_mul, nI_add, n10, n1z, n00, eq_self, not_true_eq_false, not_false_eq_true, hD.a]
  obtain ⟨t1, t2, t3, t4, t5⟩ := ht
  obtain ⟨c1, c2, c3, c0, c5, c4⟩ := cs_ok i hi
  have el : f_J0_length_8abf5 i M = some (nI (snL.getD i 0), M) := ck_t (by omega)
  have le := tk_le (tp := tp) hf
  rw [f_X3_spells, ck_t k3]
  by_cases e1 : tkK n tp f = 1
  · have e2 : tkC n tp f = 1 := by unfold tkC; rw [e1, if_neg (by decide)]
    rw [e2] at t2
    have az := tk_az e1
    have t3 := t3 (by omega)
    rw [if_neg (not_not_intro (show gI M (B + 28) 4 = (1 : Int32) from t2)), ck_t k3, ck_t k3, ck_t (by omega), el, bd_s, show gI M (B + 28) 6 = nI (tkE n tp f) from t3, show gI M (B + 28) 5 = nI f from t1, pk_sub (by omega)]
    by_cases e3 : tkE n tp f - f = snL.getD i 0
    · rw [e3, if_pos rfl]
      obtain ⟨r, r1, r2⟩ := c_sp_lp h t1 hi (by omega) (snL.getD i 0) 0 FU (by omega) (by unfold FU; omega)
      have eL : lnT n tp f = snL.getD i 0 := e3
      rw [show (0 : Int32) = nI 0 from rfl, r1, wd_e ⟨e1, by omega⟩]
      have inj := wvB_inj (tp := tp) (cs := csN i) (f := f) (g := 0) (lnT n tp f) (snL.getD i 0) az (fun q hq => by rw [Nat.zero_add]; exact (c4 q hq).2)
      rw [c5] at inj
      rcases r2 with ⟨a1, a2⟩ | ⟨a1, q, a2, a3⟩
      · rw [a1, if_pos (inj.mpr ⟨eL, fun q hq => by rw [Nat.zero_add]; exact a2 q (by omega) (by omega)⟩)]
      · have nz : ¬ wvB 32 96 tp f (lnT n tp f) = owL.getD i 0 := fun z => a3 (by have := (inj.mp z).2 q (by omega); rw [Nat.zero_add] at this; exact this)
        rw [a1, if_neg nz]
    · rw [if_neg (by rw [nI_eq (by omega) (by omega)]; exact e3)]
      have ne : ¬ wdT n tp f = owL.getD i 0 := by
        intro z
        have w := wd_1 (n := n) (tp := tp) (f := f) (by omega)
        rw [wd_e w, ← c5] at z
        have inj := (wvB_inj (tp := tp) (cs := csN i) (f := f) (g := 0) (lnT n tp f) (snL.getD i 0) az (fun q hq => by rw [Nat.zero_add]; exact (c4 q hq).2)).mp z
        exact e3 inj.1
      rw [if_neg ne]; rfl
  · have c3' := tkC_3 (n := n) (tp := tp) (f := f)
    have e2 : tkC n tp f ≠ 1 := by
      unfold tkC
      split <;> omega
    have ne : ¬ wdT n tp f = owL.getD i 0 := by
      intro z
      have := wd_1 (n := n) (tp := tp) (f := f) (by omega)
      exact e1 this.1
    rw [if_pos (by rw [show gI M (B + 28) 4 = nI (tkC n tp f) from t2, show (1 : Int32) = nI 1 from rfl, nI_eq (by omega) (by omega)]; exact e2), if_neg ne]
    rfl
theorem r_is (h : GT B P n tp) (ht : TkR B P n tp f) (hx : 0 < x) (hx2 : x < 2 ^ 30) : f_X8_is (B + 59) (nI x) P = some (if wdT n tp f = x then nI 1 else nI 0, P) := by
  have hD : RfD B P.2.2 := h.1
  have k8 : gK P (B + 59) = 8 := by simp (disch := omega) only [reduceIte, ↓reduceIte, ↓ck_i, ↓nm_s, ↓bR_i, ↓bd_i, Option.isSome_some, Option.getD_some, gK, gR, gN, gIs, inb_nI, and_self, nI_clamp, fa_lit, pk_mul, nI_add, n10, n1z, n00, eq_self, not_true_eq_false, not_false_eq_true, hD.a]
  obtain ⟨t1, t2, t3, t4, t5⟩ := ht
  have w30 := wd_30 (n := n) (tp := tp) (f := f)
  rw [f_X8_is, ck_t k8]
  by_cases e1 : tkK n tp f = 1
  · rw [e1] at t3
    rw [e1, if_pos rfl] at t5
    rw [if_neg (not_not_intro (show gI P (B + 59) 6 = (1 : Int32) from t3)), ck_t k8]
    by_cases e2 : lnT n tp f ≤ 6
    · have e3 : gI P (B + 59) 8 = nI (wdT n tp f) := by
        rw [wd_e ⟨e1, e2⟩]
        show P.1 (B + 59) 8 = _
        rw [t5, wI]; exact if_pos e2
      by_cases e4 : wdT n tp f = x
      · rw [e3, e4, if_neg (not_not_intro rfl), if_pos rfl]; rfl
      · rw [e3, if_pos (by rw [nI_eq (by omega) (by omega)]; exact e4), if_neg e4]; rfl
    · have e3 : gI P (B + 59) 8 = -nI 1 := by
        show P.1 (B + 59) 8 = _
        rw [t5, wI]; exact if_neg e2
      have e4 : ¬ wdT n tp f = x := fun z => e2 (wd_1 (n := n) (tp := tp) (f := f) (by omega)).2
      have e5 : ¬ -nI 1 = nI x := by
        rw [fa_eq, nI_toInt (by omega)]
        have : (-nI 1).toInt = -1 := by decide
        omega
      rw [e3, if_pos e5, if_neg e4]; rfl
  · have e4 : ¬ wdT n tp f = x := fun z => e1 (wd_1 (n := n) (tp := tp) (f := f) (by omega)).1
    have k4 : tkK n tp f ≤ 4 := by unfold tkK; (repeat' split) <;> omega
    rw [if_pos (by rw [show gI P (B + 59) 6 = nI (tkK n tp f) from t3, show (1 : Int32) = nI 1 from rfl, nI_eq (by omega) (by omega)]; exact e1), if_neg e4]
    rfl
/-- the class's value of a word -/
theorem c_val (ht : TkC B M n tp f) (hw : wdT n tp f ≠ 0) : M.1 (B + 28) 7 = nI (vcN 6 (wdT n tp f)) := by
  have e := wd_1 hw
  rw [ht.2.2.2.1 e.1, wd_e e, vcN_w _ 6 e.2 (tk_az e.1), wI]
  exact if_pos e.2
theorem c_num (ht : TkC B M n tp f) (hk : tkK n tp f = 2) : M.1 (B + 28) 7 = if lnT n tp f ≤ 5 then nI (nvT n tp f) else -nI 1 := ht.2.2.2.2 hk
theorem r_val (ht : TkR B P n tp f) (hw : wdT n tp f ≠ 0) : P.1 (B + 59) 8 = nI (wdT n tp f) := by
  have e := wd_1 hw
  rw [ht.2.2.2.2, if_pos e.1, wd_e e, wI]
  exact if_pos e.2
theorem r_num (ht : TkR B P n tp f) (hk : tkK n tp f = 2) : P.1 (B + 59) 7 = if lnT n tp f ≤ 5 then nI (nvT n tp f) else -nI 1 := by
  rw [ht.2.2.2.1, if_pos hk]; rfl
theorem c_s0 (h : GC B M n tp) (ht : TkC B M n tp f) (hf : f ≤ n) : f_X3_spells (B + 28) 0 M = some (if wdT n tp f = 408622 then nI 1 else nI 0, M) := c_spells h ht hf (i := 0) (by omega)
theorem c_s1 (h : GC B M n tp) (ht : TkC B M n tp f) (hf : f ≤ n) : f_X3_spells (B + 28) 1 M = some (if wdT n tp f = 2603155 then nI 1 else nI 0, M) := c_spells h ht hf (i := 1) (by omega)
theorem c_s2 (h : GC B M n tp) (ht : TkC B M n tp f) (hf : f ≤ n) : f_X3_spells (B + 28) 2 M = some (if wdT n tp f = 16434 then nI 1 else nI 0, M) := c_spells h ht hf (i := 2) (by omega)
theorem c_s3 (h : GC B M n tp) (ht : TkC B M n tp f) (hf : f ≤ n) : f_X3_spells (B + 28) 3 M = some (if wdT n tp f = 117096942 then nI 1 else nI 0, M) := c_spells h ht hf (i := 3) (by omega)
theorem c_s4 (h : GC B M n tp) (ht : TkC B M n tp f) (hf : f ≤ n) : f_X3_spells (B + 28) 4 M = some (if wdT n tp f = 26379859 then nI 1 else nI 0, M) := c_spells h ht hf (i := 4) (by omega)
theorem c_s5 (h : GC B M n tp) (ht : TkC B M n tp f) (hf : f ≤ n) : f_X3_spells (B + 28) 5 M = some (if wdT n tp f = 186542 then nI 1 else nI 0, M) := c_spells h ht hf (i := 5) (by omega)
theorem c_s6 (h : GC B M n tp) (ht : TkC B M n tp f) (hf : f ≤ n) : f_X3_spells (B + 28) 6 M = some (if wdT n tp f = 5572 then nI 1 else nI 0, M) := c_spells h ht hf (i := 6) (by omega)
theorem c_s7 (h : GC B M n tp) (ht : TkC B M n tp f) (hf : f ≤ n) : f_X3_spells (B + 28) 7 M = some (if wdT n tp f = 632267 then nI 1 else nI 0, M) := c_spells h ht hf (i := 7) (by omega)
theorem c_s8 (h : GC B M n tp) (ht : TkC B M n tp f) (hf : f ≤ n) : f_X3_spells (B + 28) 8 M = some (if wdT n tp f = 12632677 then nI 1 else nI 0, M) := c_spells h ht hf (i := 8) (by omega)
theorem c_s9 (h : GC B M n tp) (ht : TkC B M n tp f) (hf : f ≤ n) : f_X3_spells (B + 28) 9 M = some (if wdT n tp f = 284561586 then nI 1 else nI 0, M) := c_spells h ht hf (i := 9) (by omega)
theorem c_s10 (h : GC B M n tp) (ht : TkC B M n tp f) (hf : f ≤ n) : f_X3_spells (B + 28) 10 M = some (if wdT n tp f = 99944 then nI 1 else nI 0, M) := c_spells h ht hf (i := 10) (by omega)
theorem c_s11 (h : GC B M n tp) (ht : TkC B M n tp f) (hf : f ≤ n) : f_X3_spells (B + 28) 11 M = some (if wdT n tp f = 8892563 then nI 1 else nI 0, M) := c_spells h ht hf (i := 11) (by omega)
theorem c_s12 (h : GC B M n tp) (ht : TkC B M n tp f) (hf : f ≤ n) : f_X3_spells (B + 28) 12 M = some (if wdT n tp f = 17377093 then nI 1 else nI 0, M) := c_spells h ht hf (i := 12) (by omega)
theorem c_s13 (h : GC B M n tp) (ht : TkC B M n tp f) (hf : f ≤ n) : f_X3_spells (B + 28) 13 M = some (if wdT n tp f = 17376357 then nI 1 else nI 0, M) := c_spells h ht hf (i := 13) (by omega)
theorem r_s0 (h : GT B P n tp) (ht : TkR B P n tp f) : f_X8_is (B + 59) (408622 : Int32) P = some (if wdT n tp f = 408622 then nI 1 else nI 0, P) := r_is (x := 408622) h ht (by omega) (by omega)
theorem r_s1 (h : GT B P n tp) (ht : TkR B P n tp f) : f_X8_is (B + 59) (2603155 : Int32) P = some (if wdT n tp f = 2603155 then nI 1 else nI 0, P) := r_is (x := 2603155) h ht (by omega) (by omega)
theorem r_s2 (h : GT B P n tp) (ht : TkR B P n tp f) : f_X8_is (B + 59) (16434 : Int32) P = some (if wdT n tp f = 16434 then nI 1 else nI 0, P) := r_is (x := 16434) h ht (by omega) (by omega)
theorem r_s3 (h : GT B P n tp) (ht : TkR B P n tp f) : f_X8_is (B + 59) (117096942 : Int32) P = some (if wdT n tp f = 117096942 then nI 1 else nI 0, P) := r_is (x := 117096942) h ht (by omega) (by omega)
theorem r_s4 (h : GT B P n tp) (ht : TkR B P n tp f) : f_X8_is (B + 59) (26379859 : Int32) P = some (if wdT n tp f = 26379859 then nI 1 else nI 0, P) := r_is (x := 26379859) h ht (by omega) (by omega)
theorem r_s5 (h : GT B P n tp) (ht : TkR B P n tp f) : f_X8_is (B + 59) (186542 : Int32) P = some (if wdT n tp f = 186542 then nI 1 else nI 0, P) := r_is (x := 186542) h ht (by omega) (by omega)
theorem r_s6 (h : GT B P n tp) (ht : TkR B P n tp f) : f_X8_is (B + 59) (5572 : Int32) P = some (if wdT n tp f = 5572 then nI 1 else nI 0, P) := r_is (x := 5572) h ht (by omega) (by omega)
theorem r_s7 (h : GT B P n tp) (ht : TkR B P n tp f) : f_X8_is (B + 59) (632267 : Int32) P = some (if wdT n tp f = 632267 then nI 1 else nI 0, P) := r_is (x := 632267) h ht (by omega) (by omega)
theorem r_s8 (h : GT B P n tp) (ht : TkR B P n tp f) : f_X8_is (B + 59) (12632677 : Int32) P = some (if wdT n tp f = 12632677 then nI 1 else nI 0, P) := r_is (x := 12632677) h ht (by omega) (by omega)
theorem r_s9 (h : GT B P n tp) (ht : TkR B P n tp f) : f_X8_is (B + 59) (284561586 : Int32) P = some (if wdT n tp f = 284561586 then nI 1 else nI 0, P) := r_is (x := 284561586) h ht (by omega) (by omega)
theorem r_s10 (h : GT B P n tp) (ht : TkR B P n tp f) : f_X8_is (B + 59) (99944 : Int32) P = some (if wdT n tp f = 99944 then nI 1 else nI 0, P) := r_is (x := 99944) h ht (by omega) (by omega)
theorem r_s11 (h : GT B P n tp) (ht : TkR B P n tp f) : f_X8_is (B + 59) (8892563 : Int32) P = some (if wdT n tp f = 8892563 then nI 1 else nI 0, P) := r_is (x := 8892563) h ht (by omega) (by omega)
theorem r_s12 (h : GT B P n tp) (ht : TkR B P n tp f) : f_X8_is (B + 59) (17377093 : Int32) P = some (if wdT n tp f = 17377093 then nI 1 else nI 0, P) := r_is (x := 17377093) h ht (by omega) (by omega)
theorem r_s13 (h : GT B P n tp) (ht : TkR B P n tp f) : f_X8_is (B + 59) (17376357 : Int32) P = some (if wdT n tp f = 17376357 then nI 1 else nI 0, P) := r_is (x := 17376357) h ht (by omega) (by omega)
theorem b01 {a : Prop} [Decidable a] : ((if a then nI 1 else nI 0) = 0) = ¬ a := by
  by_cases h : a
  · rw [if_pos h]; exact propext ⟨fun q => absurd q (by decide), fun q => absurd h q⟩
  · rw [if_neg h]; exact propext ⟨fun _ => h, fun _ => rfl⟩
theorem c_isName (h : GC B M n tp) (ht : TkC B M n tp f) (hf : f ≤ n) : f_X3_isName (B + 28) M = some (if isNm n tp f then nI 1 else nI 0, M) := by
  have hD : CmD B M.2.2 := h.1
  have k3 : gK M (B + 28) = 3 := by simp (disch := omega) only [reduceIte, ↓reduceIte, ↓ck_i, ↓nm_s, ↓bR_i, ↓bd_i, Option.isSome_some, Option.getD_some, gK, gR, gN, gIs, inb_nI, and_self, nI_clamp, fa_lit, pk_mul, nI_add, n10, n1z, n00, eq_self, not_true_eq_false, not_false_eq_true, hD.a]
  have c3' := tkC_3 (n := n) (tp := tp) (f := f)
  rw [f_X3_isName, ck_t k3]
  by_cases e1 : tkK n tp f = 1
  · have e2 : tkC n tp f = 1 := by unfold tkC; rw [e1, if_neg (by decide)]
    have t2 := ht.2.1
    rw [e2] at t2
    rw [if_neg (not_not_intro (show gI M (B + 28) 4 = (1 : Int32) from t2)), ck_t k3]
    by_cases e3 : lnT n tp f ≤ 6
    · have wp := wd_pos ⟨e1, e3⟩
      have v := c_val ht (by omega)
      have nm := wd_nm (n := n) (tp := tp) (f := f) (by omega)
      rw [if_neg (by
        rw [show gI M (B + 28) 7 = _ from v, fa_eq, nI_toInt (by have := nm.2.2.1; omega)]
        have : (-1 : Int32).toInt = -1 := by decide
        omega)]
      rw [ck_t k3, c_s0 h ht hf, bd_s]
      by_cases o0 : wdT n tp f = 408622
      · have ni : ¬ isNm n tp f := fun z => z.2 (Or.inl o0)
        rw [if_pos o0, if_pos (by decide), if_neg ni]; rfl
      rw [if_neg o0, if_neg (by decide)]
      rw [ck_t k3, c_s1 h ht hf, bd_s]
      by_cases o1 : wdT n tp f = 2603155
      · have ni : ¬ isNm n tp f := fun z => z.2 (Or.inr (Or.inl o1))
        rw [if_pos o1, if_pos (by decide), if_neg ni]; rfl
      rw [if_neg o1, if_neg (by decide)]
      rw [ck_t k3, c_s2 h ht hf, bd_s]
      by_cases o2 : wdT n tp f = 16434
      · have ni : ¬ isNm n tp f := fun z => z.2 (Or.inr (Or.inr (Or.inl o2)))
        rw [if_pos o2, if_pos (by decide), if_neg ni]; rfl
      rw [if_neg o2, if_neg (by decide)]
      rw [ck_t k3, c_s3 h ht hf, bd_s]
      by_cases o3 : wdT n tp f = 117096942
      · have ni : ¬ isNm n tp f := fun z => z.2 (Or.inr (Or.inr (Or.inr (Or.inl o3))))
        rw [if_pos o3, if_pos (by decide), if_neg ni]; rfl
      rw [if_neg o3, if_neg (by decide)]
      rw [ck_t k3, c_s4 h ht hf, bd_s]
      by_cases o4 : wdT n tp f = 26379859
      · have ni : ¬ isNm n tp f := fun z => z.2 (Or.inr (Or.inr (Or.inr (Or.inr (Or.inl o4)))))
        rw [if_pos o4, if_pos (by decide), if_neg ni]; rfl
      rw [if_neg o4, if_neg (by decide)]
      rw [ck_t k3, c_s5 h ht hf, bd_s]
      by_cases o5 : wdT n tp f = 186542
      · have ni : ¬ isNm n tp f := fun z => z.2 (Or.inr (Or.inr (Or.inr (Or.inr (Or.inr (Or.inl o5))))))
        rw [if_pos o5, if_pos (by decide), if_neg ni]; rfl
      rw [if_neg o5, if_neg (by decide)]
      rw [ck_t k3, c_s6 h ht hf, bd_s]
      by_cases o6 : wdT n tp f = 5572
      · have ni : ¬ isNm n tp f := fun z => z.2 (Or.inr (Or.inr (Or.inr (Or.inr (Or.inr (Or.inr (Or.inl o6)))))))
        rw [if_pos o6, if_pos (by decide), if_neg ni]; rfl
      rw [if_neg o6, if_neg (by decide)]
      rw [ck_t k3, c_s7 h ht hf, bd_s]
      by_cases o7 : wdT n tp f = 632267
      · have ni : ¬ isNm n tp f := fun z => z.2 (Or.inr (Or.inr (Or.inr (Or.inr (Or.inr (Or.inr (Or.inr (Or.inl o7))))))))
        rw [if_pos o7, if_pos (by decide), if_neg ni]; rfl
      rw [if_neg o7, if_neg (by decide)]
      rw [ck_t k3, c_s8 h ht hf, bd_s]
      by_cases o8 : wdT n tp f = 12632677
      · have ni : ¬ isNm n tp f := fun z => z.2 (Or.inr (Or.inr (Or.inr (Or.inr (Or.inr (Or.inr (Or.inr (Or.inr (Or.inl o8)))))))))
        rw [if_pos o8, if_pos (by decide), if_neg ni]; rfl
      rw [if_neg o8, if_neg (by decide)]
      rw [ck_t k3, c_s9 h ht hf, bd_s]
      by_cases o9 : wdT n tp f = 284561586
      · have ni : ¬ isNm n tp f := fun z => z.2 (Or.inr (Or.inr (Or.inr (Or.inr (Or.inr (Or.inr (Or.inr (Or.inr (Or.inr (Or.inl o9))))))))))
        rw [if_pos o9, if_pos (by decide), if_neg ni]; rfl
      rw [if_neg o9, if_neg (by decide)]
      rw [ck_t k3, c_s10 h ht hf, bd_s]
      by_cases o10 : wdT n tp f = 99944
      · have ni : ¬ isNm n tp f := fun z => z.2 (Or.inr (Or.inr (Or.inr (Or.inr (Or.inr (Or.inr (Or.inr (Or.inr (Or.inr (Or.inr (Or.inl o10)))))))))))
        rw [if_pos o10, if_pos (by decide), if_neg ni]; rfl
      rw [if_neg o10, if_neg (by decide)]
      rw [ck_t k3, c_s11 h ht hf, bd_s]
      by_cases o11 : wdT n tp f = 8892563
      · have ni : ¬ isNm n tp f := fun z => z.2 (Or.inr (Or.inr (Or.inr (Or.inr (Or.inr (Or.inr (Or.inr (Or.inr (Or.inr (Or.inr (Or.inr (Or.inl o11))))))))))))
        rw [if_pos o11, if_pos (by decide), if_neg ni]; rfl
      rw [if_neg o11, if_neg (by decide)]
      rw [ck_t k3, c_s12 h ht hf, bd_s]
      by_cases o12 : wdT n tp f = 17377093
      · have ni : ¬ isNm n tp f := fun z => z.2 (Or.inr (Or.inr (Or.inr (Or.inr (Or.inr (Or.inr (Or.inr (Or.inr (Or.inr (Or.inr (Or.inr (Or.inr (Or.inl o12)))))))))))))
        rw [if_pos o12, if_pos (by decide), if_neg ni]; rfl
      rw [if_neg o12, if_neg (by decide)]
      rw [ck_t k3, c_s13 h ht hf, bd_s]
      by_cases o13 : wdT n tp f = 17376357
      · have ni : ¬ isNm n tp f := fun z => z.2 (Or.inr (Or.inr (Or.inr (Or.inr (Or.inr (Or.inr (Or.inr (Or.inr (Or.inr (Or.inr (Or.inr (Or.inr (Or.inr (o13))))))))))))))
        rw [if_pos o13, if_pos (by decide), if_neg ni]; rfl
      rw [if_neg o13, if_neg (by decide)]
      have ni : isNm n tp f := ⟨by omega, by omega⟩
      rw [if_pos ni]; rfl
    · have v : M.1 (B + 28) 7 = -nI 1 := by
        rw [ht.2.2.2.1 e1, wI]; exact if_neg e3
      have ne : ¬ isNm n tp f := fun z => e3 (wd_1 z.1).2
      rw [if_pos (show gI M (B + 28) 7 = (-1 : Int32) from v.trans (by decide)), if_neg ne]; rfl
  · have ne : ¬ isNm n tp f := fun z => e1 (wd_1 z.1).1
    have e2 : tkC n tp f ≠ 1 := by
      unfold tkC
      split <;> omega
    rw [if_pos (by rw [show gI M (B + 28) 4 = nI (tkC n tp f) from ht.2.1, show (1 : Int32) = nI 1 from rfl, nI_eq (by omega) (by omega)]; exact e2), if_neg ne]
    rfl
theorem r_isOwn (h : GT B P n tp) (ht : TkR B P n tp f) : f_X8_isOwn (B + 59) P = some (if ownN (wdT n tp f) then nI 1 else nI 0, P) := by
  have hD : RfD B P.2.2 := h.1
  have k8 : gK P (B + 59) = 8 := by simp (disch := omega) only [reduceIte, ↓reduceIte, ↓ck_i, ↓nm_s, ↓bR_i, ↓bd_i, Option.isSome_some, Option.getD_some, gK, gR, gN, gIs, inb_nI, and_self, nI_clamp, fa_lit, pk_mul, nI_add, n10, n1z, n00, eq_self, not_true_eq_false, not_false_eq_true, hD.a]
  rw [f_X8_isOwn]
  rw [ck_t k8, r_s0 h ht, bd_s]
  by_cases o0 : wdT n tp f = 408622
  · rw [if_pos o0, if_pos (by decide), if_pos (show ownN (wdT n tp f) from Or.inl o0)]; rfl
  rw [if_neg o0, if_neg (by decide)]
  rw [ck_t k8, r_s1 h ht, bd_s]
  by_cases o1 : wdT n tp f = 2603155
  · rw [if_pos o1, if_pos (by decide), if_pos (show ownN (wdT n tp f) from Or.inr (Or.inl o1))]; rfl
  rw [if_neg o1, if_neg (by decide)]
  rw [ck_t k8, r_s2 h ht, bd_s]
  by_cases o2 : wdT n tp f = 16434
  · rw [if_pos o2, if_pos (by decide), if_pos (show ownN (wdT n tp f) from Or.inr (Or.inr (Or.inl o2)))]; rfl
  rw [if_neg o2, if_neg (by decide)]
  rw [ck_t k8, r_s3 h ht, bd_s]
  by_cases o3 : wdT n tp f = 117096942
  · rw [if_pos o3, if_pos (by decide), if_pos (show ownN (wdT n tp f) from Or.inr (Or.inr (Or.inr (Or.inl o3))))]; rfl
  rw [if_neg o3, if_neg (by decide)]
  rw [ck_t k8, r_s4 h ht, bd_s]
  by_cases o4 : wdT n tp f = 26379859
  · rw [if_pos o4, if_pos (by decide), if_pos (show ownN (wdT n tp f) from Or.inr (Or.inr (Or.inr (Or.inr (Or.inl o4)))))]; rfl
  rw [if_neg o4, if_neg (by decide)]
  rw [ck_t k8, r_s5 h ht, bd_s]
  by_cases o5 : wdT n tp f = 186542
  · rw [if_pos o5, if_pos (by decide), if_pos (show ownN (wdT n tp f) from Or.inr (Or.inr (Or.inr (Or.inr (Or.inr (Or.inl o5))))))]; rfl
  rw [if_neg o5, if_neg (by decide)]
  rw [ck_t k8, r_s6 h ht, bd_s]
  by_cases o6 : wdT n tp f = 5572
  · rw [if_pos o6, if_pos (by decide), if_pos (show ownN (wdT n tp f) from Or.inr (Or.inr (Or.inr (Or.inr (Or.inr (Or.inr (Or.inl o6)))))))]; rfl
  rw [if_neg o6, if_neg (by decide)]
  rw [ck_t k8, r_s7 h ht, bd_s]
  by_cases o7 : wdT n tp f = 632267
  · rw [if_pos o7, if_pos (by decide), if_pos (show ownN (wdT n tp f) from Or.inr (Or.inr (Or.inr (Or.inr (Or.inr (Or.inr (Or.inr (Or.inl o7))))))))]; rfl
  rw [if_neg o7, if_neg (by decide)]
  rw [ck_t k8, r_s8 h ht, bd_s]
  by_cases o8 : wdT n tp f = 12632677
  · rw [if_pos o8, if_pos (by decide), if_pos (show ownN (wdT n tp f) from Or.inr (Or.inr (Or.inr (Or.inr (Or.inr (Or.inr (Or.inr (Or.inr (Or.inl o8)))))))))]; rfl
  rw [if_neg o8, if_neg (by decide)]
  rw [ck_t k8, r_s9 h ht, bd_s]
  by_cases o9 : wdT n tp f = 284561586
  · rw [if_pos o9, if_pos (by decide), if_pos (show ownN (wdT n tp f) from Or.inr (Or.inr (Or.inr (Or.inr (Or.inr (Or.inr (Or.inr (Or.inr (Or.inr (Or.inl o9))))))))))]; rfl
  rw [if_neg o9, if_neg (by decide)]
  rw [ck_t k8, r_s10 h ht, bd_s]
  by_cases o10 : wdT n tp f = 99944
  · rw [if_pos o10, if_pos (by decide), if_pos (show ownN (wdT n tp f) from Or.inr (Or.inr (Or.inr (Or.inr (Or.inr (Or.inr (Or.inr (Or.inr (Or.inr (Or.inr (Or.inl o10)))))))))))]; rfl
  rw [if_neg o10, if_neg (by decide)]
  rw [ck_t k8, r_s11 h ht, bd_s]
  by_cases o11 : wdT n tp f = 8892563
  · rw [if_pos o11, if_pos (by decide), if_pos (show ownN (wdT n tp f) from Or.inr (Or.inr (Or.inr (Or.inr (Or.inr (Or.inr (Or.inr (Or.inr (Or.inr (Or.inr (Or.inr (Or.inl o11))))))))))))]; rfl
  rw [if_neg o11, if_neg (by decide)]
  rw [ck_t k8, r_s12 h ht, bd_s]
  by_cases o12 : wdT n tp f = 17377093
  · rw [if_pos o12, if_pos (by decide), if_pos (show ownN (wdT n tp f) from Or.inr (Or.inr (Or.inr (Or.inr (Or.inr (Or.inr (Or.inr (Or.inr (Or.inr (Or.inr (Or.inr (Or.inr (Or.inl o12)))))))))))))]; rfl
  rw [if_neg o12, if_neg (by decide)]
  rw [ck_t k8, r_s13 h ht, bd_s]
  by_cases o13 : wdT n tp f = 17376357
  · rw [if_pos o13, if_neg (by decide), if_pos (show ownN (wdT n tp f) from Or.inr (Or.inr (Or.inr (Or.inr (Or.inr (Or.inr (Or.inr (Or.inr (Or.inr (Or.inr (Or.inr (Or.inr (Or.inr (o13))))))))))))))]; rfl
  rw [if_neg o13, if_pos (by decide), if_neg (show ¬ ownN (wdT n tp f) by omega)]; rfl
theorem r_isName (h : GT B P n tp) (ht : TkR B P n tp f) : f_X8_isName (B + 59) P = some (if isNm n tp f then nI 1 else nI 0, P) := by
  have hD : RfD B P.2.2 := h.1
  have k8 : gK P (B + 59) = 8 := by simp (disch := omega) only [reduceIte, ↓reduceIte, ↓ck_i, ↓nm_s, ↓bR_i, ↓bd_i, Option.isSome_some, Option.getD_some, gK, gR, gN, gIs, inb_nI, and_self, nI_clamp, fa_lit, pk_mul, nI_add, n10, n1z, n00, eq_self, not_true_eq_false, not_false_eq_true, hD.a]
  have k4 : tkK n tp f ≤ 4 := by unfold tkK; (repeat' split) <;> omega
  rw [f_X8_isName, ck_t k8]
  by_cases e1 : tkK n tp f = 1
  · have t3 := ht.2.2.1
    rw [e1] at t3
    rw [if_neg (not_not_intro (show gI P (B + 59) 6 = (1 : Int32) from t3)), ck_t k8]
    by_cases e3 : lnT n tp f ≤ 6
    · have wp := wd_pos ⟨e1, e3⟩
      have w30 := wd_30 (n := n) (tp := tp) (f := f)
      have v := r_val ht (by omega)
      rw [if_neg (by
        rw [show gI P (B + 59) 8 = _ from v, fa_eq, nI_toInt (by omega)]
        have : (-1 : Int32).toInt = -1 := by decide
        omega), ck_t k8, r_isOwn h ht, bd_s]
      by_cases e4 : ownN (wdT n tp f)
      · rw [if_pos e4, if_pos (by decide), if_neg (show ¬ isNm n tp f from fun z => z.2 e4)]; rfl
      · rw [if_neg e4, if_neg (by decide), if_pos (show isNm n tp f from ⟨by omega, e4⟩)]; rfl
    · have v : P.1 (B + 59) 8 = -nI 1 := by
        rw [ht.2.2.2.2, if_pos e1, wI]; exact if_neg e3
      have ne : ¬ isNm n tp f := fun z => e3 (wd_1 z.1).2
      rw [if_pos (show gI P (B + 59) 8 = (-1 : Int32) from v.trans (by decide)), if_neg ne]; rfl
  · have ne : ¬ isNm n tp f := fun z => e1 (wd_1 z.1).1
    rw [if_pos (by rw [show gI P (B + 59) 6 = nI (tkK n tp f) from ht.2.2.1, show (1 : Int32) = nI 1 from rfl, nI_eq (by omega) (by omega)]; exact e1), if_neg ne]
    rfl
end TY2
