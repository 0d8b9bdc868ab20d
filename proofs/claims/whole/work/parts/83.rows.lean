/-! the row as questions see it -/
def pA (T S : Nat → Nat) (l oy op y : Nat) : Nat := if y = oy then op else prS T S l y
def rs (T S : Nat → Nat) (l oy op m i : Nat) : Nat × Nat := stR T l (pA T S l oy op) (S 1206 + 1) (ctS T S l 0) (S (1211 + l) + m) i
/-- stand at the beginning of a year to come -/
def vS (T S : Nat → Nat) (l oy op m y : Nat) : Nat := (rs T S l oy op m (y - (S 1206 + 1))).1
def vF (T S : Nat → Nat) (l oy op m y : Nat) : Nat := (rs T S l oy op m (y - (S 1206 + 1))).2
def vD (T S : Nat → Nat) (l oy op m y : Nat) : Nat := duR T l (pA T S l oy op y) y (vS T S l oy op m y) (vF T S l oy op m y)
section ROWS
variable {B t c l oy op m : Nat} {T S : Nat → Nat} {M N : Mm}
theorem pr_rng (hW : TW T) (hw : SW T S c) (hl : l < T 0) {y : Nat} (h1 : 1 ≤ y) (h2 : y ≤ T (12 + 7 * l + 3)) : 1 ≤ prS T S l y ∧ prS T S l y ≤ 999 := by
  have w := hW.2.2 l hl
  have q := (hw.2.2.2.1 l hl y h1 h2).1
  unfold prS
  split <;> omega
theorem pA_rng (hW : TW T) (hw : SW T S c) (hl : l < T 0) (ho : oy = 0 ∨ (1 ≤ op ∧ op ≤ 999)) {y : Nat} (h1 : 1 ≤ y) (h2 : y ≤ T (12 + 7 * l + 3)) : pA T S l oy op y = (if y = oy then op else prS T S l y) ∧ 1 ≤ pA T S l oy op y ∧ pA T S l oy op y ≤ 999 := by
  have q := pr_rng hW hw hl h1 h2
  refine ⟨rfl, ?_⟩
  unfold pA
  split <;> omega
theorem RI0 (hW : TW T) (hw : SW T S c) (hc : c ≤ 600) (hl : l < T 0) (hy : S 1206 < T (12 + 7 * l + 3)) (hm : m ≤ 99999) : RI T l (S 1206 + 1) (ctS T S l 0) (S (1211 + l) + m) := by
  refine ⟨fb_ct_le _ _, ?_, fun h0 => ?_⟩
  · have := (hw.2.2.1 l hl).2.2
    have h2 : 99999 * c ≤ 99999 * 600 := Nat.mul_le_mul_left _ hc
    omega
  · rw [Nat.add_sub_cancel]
    exact hw.2.2.2.2.2.2 l hl h0 hy
theorem RIy (hW : TW T) (hw : SW T S c) (hc : c ≤ 600) (hl : l < T 0) (hm : m ≤ 99999) {y : Nat} (h1 : S 1206 < y) (h2 : y ≤ T (12 + 7 * l + 3)) : RI T l y (vS T S l oy op m y) (vF T S l oy op m y) := by
  have := RI.st hW hl (pr := pA T S l oy op) (i := y - (S 1206 + 1)) (RI0 hW hw hc hl (m := m) (by omega) hm) (by omega) (by omega)
  rw [show S 1206 + 1 + (y - (S 1206 + 1)) = y by omega] at this
  exact this
theorem vS_next {y : Nat} (h1 : S 1206 < y) : vS T S l oy op m (y + 1) = vS T S l oy op m y - vD T S l oy op m y := by
  have := stR_succ (T := T) (l := l) (pr := pA T S l oy op) (i := y - (S 1206 + 1)) (y := S 1206 + 1) (s := ctS T S l 0) (f := S (1211 + l) + m)
  rw [show S 1206 + 1 + (y - (S 1206 + 1)) = y by omega, show y - (S 1206 + 1) + 1 = y + 1 - (S 1206 + 1) by omega] at this
  unfold vS vD rs
  rw [this]
  rfl
theorem vF_next {y : Nat} (h1 : S 1206 < y) : vF T S l oy op m (y + 1) = fuR T l (pA T S l oy op y) y (vS T S l oy op m y) (vF T S l oy op m y) := by
  have := stR_succ (T := T) (l := l) (pr := pA T S l oy op) (i := y - (S 1206 + 1)) (y := S 1206 + 1) (s := ctS T S l 0) (f := S (1211 + l) + m)
  rw [show S 1206 + 1 + (y - (S 1206 + 1)) = y by omega, show y - (S 1206 + 1) + 1 = y + 1 - (S 1206 + 1) by omega] at this
  unfold vF rs
  rw [this]
  rfl
theorem vS_0 : vS T S l oy op m (S 1206 + 1) = ctS T S l 0 := by unfold vS rs; rw [Nat.sub_self]; rfl
theorem vF_0 : vF T S l oy op m (S 1206 + 1) = S (1211 + l) + m := by unfold vF rs; rw [Nat.sub_self]; rfl
/-- all the component's row says -/
def RR (B : Nat) (M : Mm) (T S : Nat → Nat) (l oy op m : Nat) : Prop := ∀ y, S 1206 < y → y ≤ T (12 + 7 * l + 3) → RA B M T l (pA T S l oy op y) y (vS T S l oy op m y) (vF T S l oy op m y)
def QR (B : Nat) (M : Mm) (T S : Nat → Nat) (l oy op m : Nat) : Prop := ∀ y, S 1206 < y → y ≤ T (12 + 7 * l + 3) → QA B M T l (pA T S l oy op y) y (vS T S l oy op m y) (vF T S l oy op m y)
theorem p_run (hQ : CQ B t M T S c) (hl : l < T 0) (h : RO B M T S l) (hoy : oy < 100) (ho : oy = 0 ∨ (1 ≤ op ∧ op ≤ 999)) (hm : m ≤ 99999) : ∃ N, f_X4_run (B + 44) (nI m) (nI oy) (nI op) M = some ((), N) ∧ KO B M N ∧ RO B N T S l ∧ RR B N T S l oy op m := by
  have hW := hQ.2.2.2.2.1
  have hw := hQ.2.2.2.2.2.2.2.1
  have w := (hW.2.2 l hl).2.2.2.2.2.2.1
  obtain ⟨N, eN, n1, n2, n3, n4⟩ := p_run_lp (B := B) (S := S) hW hl hoy (pr := pA T S l oy op) (op := op) (fun y h1 h2 => pA_rng hW hw hl ho h1 h2) (T (12 + 7 * l + 3) + 1 - (S 1206 + 1)) (S 1206 + 1) FU (ctS T S l 0) (S (1211 + l) + m) M rfl (by omega) (by have := hw.1; omega) (by unfold FU; omega) hQ.1 h (fun hd => RI0 hW hw hQ.2.2.2.2.2.2.2.2 hl (by omega) hm)
  refine ⟨N, ?_, ⟨n1, fun a ha => n2 a (by omega)⟩, h.of (n2 _ (by omega)) (n2 _ (by omega)) (n2 _ (by omega)), fun y h1 h2 => ?_⟩
  · simp (disch := omega) only [f_X4_run, reduceIte, ↓reduceIte, ↓ck_i, ↓nm_s, ↓bR_i, ↓bd_i, Option.isSome_some, Option.getD_some, gK, gR, gN, gIs, inb_nI, and_self, nI_clamp, fa_lit, pk_mul, nI_add, n10, n1z, n00, eq_self, not_true_eq_false, not_false_eq_true, hQ.1, h.1]
    exact eN
  · have := n4 (y - (S 1206 + 1)) (by omega)
    rw [show S 1206 + 1 + (y - (S 1206 + 1)) = y by omega] at this
    exact this
theorem q_tells (hR : RQ B M T S c) (hl : l < T 0) (hoy : oy < 100) (ho : oy = 0 ∨ (1 ≤ op ∧ op ≤ 999)) (hm : m ≤ 99999) : ∃ N, f_X8_tells (B + 59) (nI l) (nI oy) (nI op) (nI m) M = some ((), N) ∧ KT B M N ∧ QR B N T S l oy op m := by
  have hW := hR.2.2.2.1
  have hw := hR.2.2.2.2.1
  have w0 := hW.1
  have w := (hW.2.2 l hl).2.2.2.2.2.2.1
  obtain ⟨N, eN, n1, n2, n4⟩ := q_tells_lp (B := B) (S := S) hl hoy (pr := pA T S l oy op) (op := op) (fun y h1 h2 => pA_rng hW hw hl ho h1 h2) (T (12 + 7 * l + 3) + 1 - (S 1206 + 1)) (S 1206 + 1) FU (ctS T S l 0) (S (1211 + l) + m) M rfl (by omega) (by have := hw.1; omega) (by unfold FU; omega) hR (fun hd => RI0 hW hw hR.2.2.2.2.2 hl (by omega) hm)
  refine ⟨N, ?_, n1, fun y h1 h2 => ?_⟩
  · have a1 := hR.2.2.1 (1211 + l) (by omega)
    have a2 := hR.2.2.1 1206 (by omega)
    have a3 := q_howMany hR hl (st := 0) (by omega)
    simp (disch := omega) only [f_X8_tells, reduceIte, ↓reduceIte, ↓ck_i, ↓nm_s, ↓bR_i, ↓bd_i, Option.isSome_some, Option.getD_some, gK, gR, gN, gIs, inb_nI, and_self, nI_clamp, fa_lit, pk_mul, nI_add, n10, n1z, n00, eq_self, not_true_eq_false, not_false_eq_true, hR.1, a1, a2, a3]
    exact eN
  · have := n4 (y - (S 1206 + 1)) (by omega)
    rw [show S 1206 + 1 + (y - (S 1206 + 1)) = y by omega] at this
    exact this
theorem q_tells0 (hR : RQ B M T S c) (hl : l < T 0) : ∃ N, f_X8_tells_ (B + 59) (nI l) M = some ((), N) ∧ KT B M N ∧ QR B N T S l 0 0 0 := by
  obtain ⟨N, eN, n1, n2⟩ := q_tells hR hl (oy := 0) (op := 0) (m := 0) (by omega) (Or.inl rfl) (by omega)
  refine ⟨N, ?_, n1, n2⟩
  have hK : RfD B N.2.2 := by rw [n1.1]; exact hR.1
  simp (disch := omega) only [f_X8_tells_, reduceIte, ↓reduceIte, ↓ck_i, ↓nm_s, ↓bR_i, ↓bd_i, Option.isSome_some, Option.getD_some, gK, gR, gN, gIs, inb_nI, and_self, nI_clamp, fa_lit, pk_mul, nI_add, n10, n1z, n00, eq_self, not_true_eq_false, not_false_eq_true, hR.1, eN, hK.a]
theorem p_foresee (hQ : CQ B t M T S c) (ht : t + 14 ≤ B + 44) (hl : l < T 0) : ∃ N, f_X4_foresee (B + 44) t (B + 15) (nI l) M = some ((), N) ∧ KO B M N ∧ RO B N T S l ∧ RR B N T S l 0 0 0 := by
  obtain ⟨N, eN, n1, n2⟩ := p_open hQ ht hl
  have hQN : CQ B t N T S c := hQ.kp ht (by rw [n1.1]) (fun a ha => n1.2 a (by omega))
  obtain ⟨P, eP, p1, p2, p3⟩ := p_run hQN hl n2 (oy := 0) (op := 0) (m := 0) (by omega) (Or.inl rfl) (by omega)
  refine ⟨P, ?_, n1.tr p1, p2, p3⟩
  simp (disch := omega) only [f_X4_foresee, reduceIte, ↓reduceIte, ↓ck_i, ↓nm_s, ↓bR_i, ↓bd_i, Option.isSome_some, Option.getD_some, gK, gR, gN, gIs, inb_nI, and_self, nI_clamp, fa_lit, pk_mul, nI_add, n10, n1z, n00, eq_self, not_true_eq_false, not_false_eq_true, hQ.1, hQN.1, eN, eP]
theorem KR.th {j : Nat} {v : Int32} (h1 : j ≠ 2) (h2 : j ≠ 23) : KR B N (sI N (B + 59) j v) := ⟨rfl, fun a ha _ _ => sI_ne ha, sI_oth (Ne.symm h1), sI_oth (Ne.symm h2), rfl⟩
theorem KC.rq (h : KC B M N) (hR : RQ B M T S c) : RQ B N T S c := hR.keep h.1 (h.2.1 _ (by omega)) (h.2.1 _ (by omega))
theorem KO.cq (h : KO B M N) (hQ : CQ B t M T S c) (ht : t + 14 ≤ B + 44) : CQ B t N T S c := hQ.kp ht (by rw [h.1]) (fun a ha => h.2 a (by omega))
/-- the form of a question -/
theorem pr_q {α : Type} {fx fm : Mm → Option (α × Mm)} (hc : c + 1 ≤ 600) (h : ∀ M t T S, CQ B t M T S c → RQ B M T S c → t + 14 ≤ B + 44 → ∃ v N, fx M = some (v, N) ∧ KC B M N ∧ (RQ B N T S c → RQ B (sI N (B + 59) 0 (nI 0)) T S c → (M.2.1 B 6 = M.2.1 (B + 59) 28) → ∃ P, fm N = some (v, P) ∧ KR B N P ∧ P.2.1 B 6 = P.2.1 (B + 59) 28)) : Pr B c fx fm := by
  intro M ⟨t, T, S, fed, tp, nd, D, im, G, h1, h2, h3, h4, h5, h6⟩
  have ht : t + 14 ≤ B + 44 := by
    obtain ⟨d, hd, -⟩ := h3.1
    omega
  obtain ⟨v, N, e1, k1, hh⟩ := h M t T S h1 h2 ht
  have hRN := k1.rq h2
  obtain ⟨P, e2, k2, hb⟩ := hh hRN hRN.th h6
  exact ⟨v, N, e1, by rw [k1.1]; exact h2.1.1, v, P, e2, rfl, inv_q ⟨h1, h2, h3, h4, h5⟩ hc k1 k2 hb⟩
theorem KO.bl (h : KO B M N) {w : Mm} (g : KR B N w) (e : w.2 = N.2) (hb : M.2.1 B 6 = M.2.1 (B + 59) 28) : w.2.1 B 6 = w.2.1 (B + 59) 28 := by rw [e, h.1]; exact hb
end ROWS
