/-! text: the reference's token -/
def tkK (n : Nat) (tp : Nat → Nat) (f : Nat) : Nat := if n ≤ f then 0 else if 97 ≤ tp f ∧ tp f ≤ 122 then 1 else if 48 ≤ tp f ∧ tp f ≤ 57 then 2 else if tp f = 59 then 3 else 4
def tkE (n : Nat) (tp : Nat → Nat) (f : Nat) : Nat := if tkK n tp f = 0 then f else if tkK n tp f = 1 then rnB 97 122 tp (n - f) f else if tkK n tp f = 2 then rnB 48 57 tp (n - f) f else f + 1
def TkR (B : Nat) (Q : Mm) (n : Nat) (tp : Nat → Nat) (f : Nat) : Prop := Q.1 (B + 59) 4 = nI f ∧ Q.1 (B + 59) 5 = nI (tkE n tp f) ∧ Q.1 (B + 59) 6 = nI (tkK n tp f) ∧ Q.1 (B + 59) 7 = (if tkK n tp f = 2 then wI 10 48 5 tp f (tkE n tp f - f) else nI 0) ∧ Q.1 (B + 59) 8 = (if tkK n tp f = 1 then wI 32 96 6 tp f (tkE n tp f - f) else nI 0)
section TX5
variable {B n p f m v : Nat} {tp : Nat → Nat} {P Q R : Mm}
theorem skB_stop : ∀ {d k : Nat}, skB tp d k = k + d ∨ ¬ (tp (skB tp d k) = 32 ∨ tp (skB tp d k) = 10)
  | 0, k => Or.inl rfl
  | d + 1, k => by
    have ih := skB_stop (d := d) (k := k + 1)
    by_cases e : tp k = 32 ∨ tp k = 10
    · rw [show skB tp (d + 1) k = skB tp d (k + 1) from if_pos e]
      rcases ih with h | h
      · exact Or.inl (by omega)
      · exact Or.inr h
    · rw [show skB tp (d + 1) k = k from if_neg e]
      exact Or.inr e
theorem g_tail (h : GT B P n tp) (h5 : P.1 (B + 59) 5 = nI f) (hf : f ≤ n) (hb : f = n ∨ ¬ (tp f = 32 ∨ tp f = 10)) : ∃ Q, f_X8_go_0 (m + 1) (B + 59) P = some ((), Q) ∧ KTk B P Q ∧ TkR B Q n tp f := by
  have hD : RfD B P.2.2 := h.1
  have n7 := h.2.2.1
  have b := g_byte h (k := f) (by omega)
  generalize hP3 : sI (sI (sI P (B + 59) 4 (nI f)) (B + 59) 7 (nI 0)) (B + 59) 8 (nI 0) = P3
  have g3 : GT B P3 n tp := by rw [← hP3]; exact ((h.sI (by omega)).sI (by omega)).sI (by omega)
  have k3 : KTk B P P3 := by rw [← hP3]; exact ⟨rfl, fun b hb => by rw [sI_ne hb, sI_ne hb, sI_ne hb], fun j hj => by rw [sI_oth (by omega), sI_oth (by omega), sI_oth (by omega)]⟩
  have p4 : P3.1 (B + 59) 4 = nI f := by rw [← hP3, sI_oth (by omega), sI_oth (by omega), sI_hit]
  have p5 : P3.1 (B + 59) 5 = nI f := by rw [← hP3, sI_oth (by omega), sI_oth (by omega), sI_oth (by omega)]; exact h5
  have p7 : P3.1 (B + 59) 7 = nI 0 := by rw [← hP3, sI_oth (by omega), sI_hit]
  have p8 : P3.1 (B + 59) 8 = nI 0 := by rw [← hP3, sI_hit]
  have b3 := g_byte g3 (k := f) (by omega)
  have hD3 : RfD B P3.2.2 := g3.1
  by_cases e : f < n
  · rw [if_pos e] at b b3
    have hb2 : ¬ (tp f = 32 ∨ tp f = 10) := by omega
    have t8 := (h.2.2.2 f e).2
    have q1 : (nI (tp f) = nI 32) = False := by rw [nI_eq (by omega) (by omega)]; exact eq_false (by omega)
    have q2 : (nI (tp f) = nI 10) = False := by rw [nI_eq (by omega) (by omega)]; exact eq_false (by omega)
    have q3 : (nI 0 ≤ nI (tp f)) = True := by rw [nI_leI (by omega) (by omega)]; exact eq_true (by omega)
    have w1 := wi_az t8 P3
    have w2 := wi_09 t8 P3
    by_cases a1 : 97 ≤ tp f ∧ tp f ≤ 122
    · rw [if_pos a1] at w1
      have hK : tkK n tp f = 1 := by unfold tkK; rw [if_neg (by omega), if_pos a1]
      have hE : tkE n tp f = rnB 97 122 tp (n - f) f := by unfold tkE; rw [hK, if_neg (by decide), if_pos rfl]
      obtain ⟨Q, r1, r2, r3, r4, r5, r6, r7⟩ := g_w_lp (B := B) (f := f) (n - f) f FU P3 g3 p4 p5 (by rw [Nat.sub_self]; exact p8) (Nat.le_refl _) (fun q _ _ => by omega) (by omega) (by unfold FU; omega)
      refine ⟨Q, ?_, k3.tr r2, ⟨r3, by rw [hE]; exact r4, by rw [hK]; exact r5, by rw [hK, if_neg (by decide), r6]; exact p7, by rw [hK, if_pos rfl, hE]; exact r7⟩⟩
      rw [← r1]
      simp (disch := omega) only [f_X8_go_0, ↓w1, reduceIte, ↓reduceIte, ↓ck_i, ↓nm_s, ↓bR_i, ↓bd_i, Option.isSome_some, Option.getD_some, gK, gR, gN, gIs, inb_nI, and_self, nI_clamp, fa_lit, pk_mul, nI_add, n10, n1z, n00, eq_self, not_true_eq_false, not_false_eq_true, hD.a, h5, b, q1, q2, hP3, hD3.a, p5, b3, q3, sI_r]
    · rw [if_neg a1] at w1
      by_cases a2 : 48 ≤ tp f ∧ tp f ≤ 57
      · rw [if_pos a2] at w2
        have hK : tkK n tp f = 2 := by unfold tkK; rw [if_neg (by omega), if_neg a1, if_pos a2]
        have hE : tkE n tp f = rnB 48 57 tp (n - f) f := by unfold tkE; rw [hK, if_neg (by decide), if_neg (by decide), if_pos rfl]
        obtain ⟨Q, r1, r2, r3, r4, r5, r6, r7⟩ := g_n_lp (B := B) (f := f) (n - f) f FU P3 g3 p4 p5 (by rw [Nat.sub_self]; exact p7) (Nat.le_refl _) (fun q _ _ => by omega) (by omega) (by unfold FU; omega)
        refine ⟨Q, ?_, k3.tr r2, ⟨r3, by rw [hE]; exact r4, by rw [hK]; exact r5, by rw [hK, if_pos rfl, hE]; exact r7, by rw [hK, if_neg (by decide), r6]; exact p8⟩⟩
        rw [← r1]
        simp (disch := omega) only [f_X8_go_0, ↓w1, ↓w2, reduceIte, ↓reduceIte, ↓ck_i, ↓nm_s, ↓bR_i, ↓bd_i, Option.isSome_some, Option.getD_some, gK, gR, gN, gIs, inb_nI, and_self, nI_clamp, fa_lit, pk_mul, nI_add, n10, n1z, n00, eq_self, not_true_eq_false, not_false_eq_true, hD.a, h5, b, q1, q2, hP3, hD3.a, p5, b3, q3, sI_r]
      · rw [if_neg a2] at w2
        have hK : tkK n tp f = if tp f = 59 then 3 else 4 := by unfold tkK; rw [if_neg (by omega), if_neg a1, if_neg a2]
        have hE : tkE n tp f = f + 1 := by
          unfold tkE
          rw [hK, if_neg (by split <;> decide), if_neg (by split <;> decide), if_neg (by split <;> decide)]
        refine ⟨sI (sI P3 (B + 59) 5 (nI (f + 1))) (B + 59) 6 (nI (tkK n tp f)), ?_, k3.tr ⟨rfl, fun b hb => by rw [sI_ne hb, sI_ne hb], fun j hj => by rw [sI_oth (by omega), sI_oth (by omega)]⟩, ⟨by rw [sI_oth (by omega), sI_oth (by omega)]; exact p4, by rw [sI_oth (by omega), sI_hit, hE], sI_hit, by rw [sI_oth (by omega), sI_oth (by omega), if_neg (by rw [hK]; split <;> decide)]; exact p7, by rw [sI_oth (by omega), sI_oth (by omega), if_neg (by rw [hK]; split <;> decide)]; exact p8⟩⟩
        rw [hK]
        by_cases a3 : tp f = 59
        · have q4 : (nI (tp f) = nI 59) = True := by rw [a3]; exact eq_true rfl
          rw [if_pos a3]
          simp (disch := omega) only [f_X8_go_0, ↓w1, ↓w2, reduceIte, ↓reduceIte, ↓ck_i, ↓nm_s, ↓bR_i, ↓bd_i, Option.isSome_some, Option.getD_some, gK, gR, gN, gIs, inb_nI, and_self, nI_clamp, fa_lit, pk_mul, nI_add, n10, n1z, n00, eq_self, not_true_eq_false, not_false_eq_true, hD.a, h5, b, q1, q2, hP3, hD3.a, p5, b3, q3, q4, sI_r]
        · have q4 : (nI (tp f) = nI 59) = False := by rw [nI_eq (by omega) (by omega)]; exact eq_false a3
          rw [if_neg a3]
          simp (disch := omega) only [f_X8_go_0, ↓w1, ↓w2, reduceIte, ↓reduceIte, ↓ck_i, ↓nm_s, ↓bR_i, ↓bd_i, Option.isSome_some, Option.getD_some, gK, gR, gN, gIs, inb_nI, and_self, nI_clamp, fa_lit, pk_mul, nI_add, n10, n1z, n00, eq_self, not_true_eq_false, not_false_eq_true, hD.a, h5, b, q1, q2, hP3, hD3.a, p5, b3, q3, q4, sI_r]
  · rw [if_neg e] at b b3
    have q1 : (-nI 1 = nI 32) = False := by decide
    have q2 : (-nI 1 = nI 10) = False := by decide
    have q3 : (nI 0 ≤ -nI 1) = False := by decide
    have hK : tkK n tp f = 0 := by unfold tkK; rw [if_pos (by omega)]
    have hE : tkE n tp f = f := by unfold tkE; rw [if_pos hK]
    refine ⟨sI P3 (B + 59) 6 (nI 0), ?_, k3.tr ⟨rfl, fun b hb => by rw [sI_ne hb], fun j hj => by rw [sI_oth (by omega)]⟩, ⟨by rw [sI_oth (by omega)]; exact p4, by rw [sI_oth (by omega), hE]; exact p5, by rw [sI_hit, hK], by rw [sI_oth (by omega), hK, if_neg (by decide)]; exact p7, by rw [sI_oth (by omega), hK, if_neg (by decide)]; exact p8⟩⟩
    simp (disch := omega) only [f_X8_go_0, reduceIte, ↓reduceIte, ↓ck_i, ↓nm_s, ↓bR_i, ↓bd_i, Option.isSome_some, Option.getD_some, gK, gR, gN, gIs, inb_nI, and_self, nI_clamp, fa_lit, pk_mul, nI_add, n10, n1z, n00, eq_self, not_true_eq_false, not_false_eq_true, hD.a, h5, b, q1, q2, hP3, hD3.a, p5, b3, q3, sI_r]
theorem g_go (h : GT B P n tp) (h5 : P.1 (B + 59) 5 = nI p) (hp : p ≤ n) : ∃ Q, f_X8_go (B + 59) P = some ((), Q) ∧ KTk B P Q ∧ TkR B Q n tp (skB tp (n - p) p) := by
  have n7 := h.2.2.1
  have le := skB_le (tp := tp) (d := n - p) (k := p)
  have st := skB_stop (tp := tp) (d := n - p) (k := p)
  obtain ⟨m2, a1, a2⟩ := g_skip (B := B) (n - p) p FU P h h5 (by omega) (by unfold FU; omega)
  obtain ⟨m, rfl⟩ : ∃ q, m2 = q + 1 := ⟨m2 - 1, by omega⟩
  obtain ⟨Q, q1, q2, q3⟩ := g_tail (m := m) (f := skB tp (n - p) p) (h.sI (j := 5) (v := nI (skB tp (n - p) p)) (by omega)) sI_hit (by omega) (by omega)
  refine ⟨Q, ?_, ⟨q2.1, fun b hb => by rw [q2.2.1 b hb, sI_ne hb], fun j hj => by rw [q2.2.2 j hj, sI_oth (by omega)]⟩, q3⟩
  show f_X8_go_0 FU (B + 59) P = _
  rw [a2]; exact q1
end TX5
