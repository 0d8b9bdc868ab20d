/-! text: how the reference begins and how it ends -/
section TZ5
variable {B d n fed f l w g v ln : Nat} {tp T S : Td} {M0 M N P0 P Q R : Mm} {u : Int32}
theorem rk8 (hD : RfA B P.2.2) (h : Q.2 = P.2) : gK Q (B + 59) = 8 := by
  show Q.2.2.2.1 (B + 59) = 8
  rw [h]; simp only [hD]
theorem rr12 (hD : RfA B P.2.2) (h : Q.2 = P.2) : gR Q (B + 59) 12 = some (B + 62) := by
  show Q.2.2.1 (B + 59) 12 = _
  rw [h]; simp only [hD]
theorem rr18 (hD : RfA B P.2.2) (h : Q.2 = P.2) : gR Q (B + 59) 18 = some (B + 64) := by
  show Q.2.2.1 (B + 59) 18 = _
  rw [h]; simp only [hD]
theorem rr11 (hD : RfA B P.2.2) (h : Q.2 = P.2) : gR Q (B + 59) 11 = some (B + 61) := by
  show Q.2.2.1 (B + 59) 11 = _
  rw [h]; simp only [hD]
theorem rr17 (hD : RfA B P.2.2) (h : Q.2 = P.2) : gR Q (B + 59) 17 = some (B + 63) := by
  show Q.2.2.1 (B + 59) 17 = _
  rw [h]; simp only [hD]
theorem rr25 (hD : RfA B P.2.2) (h : Q.2 = P.2) : gR Q (B + 59) 25 = some (B + 66) := by
  show Q.2.2.1 (B + 59) 25 = _
  rw [h]; simp only [hD]
theorem ri (hD : RfA B P.2.2) (h : Q.2 = P.2) {k : Nat} (hk : k < 80) : (gK Q (B + 62) = 10 ∧ inb (nI k) (gN Q (B + 62))) ∧ (gK Q (B + 61) = 10 ∧ inb (nI k) (gN Q (B + 61))) := by
  have a : gK Q (B + 62) = 10 := by
    show Q.2.2.2.1 (B + 62) = _
    rw [h]; simp only [hD]
  have b : gN Q (B + 62) = 80 := by
    show Q.2.2.2.2.1 (B + 62) = _
    rw [h]; simp only [hD]
  have c : gK Q (B + 61) = 10 := by
    show Q.2.2.2.1 (B + 61) = _
    rw [h]; simp only [hD]
  have d : gN Q (B + 61) = 80 := by
    show Q.2.2.2.2.1 (B + 61) = _
    rw [h]; simp only [hD]
  exact ⟨⟨a, by rw [b]; exact nI_in hk (by omega)⟩, ⟨c, by rw [d]; exact nI_in hk (by omega)⟩⟩
theorem ri4 (hD : RfA B P.2.2) (h : Q.2 = P.2) {k : Nat} (hk : k < 1407) : gK Q (B + 64) = 10 ∧ inb (nI k) (gN Q (B + 64)) := by
  have a : gK Q (B + 64) = 10 := by
    show Q.2.2.2.1 (B + 64) = _
    rw [h]; simp only [hD]
  have b : gN Q (B + 64) = 1407 := by
    show Q.2.2.2.2.1 (B + 64) = _
    rw [h]; simp only [hD]
  exact ⟨a, by rw [b]; exact nI_in hk (by omega)⟩
theorem ri6 (hD : RfA B P.2.2) (h : Q.2 = P.2) {k : Nat} (hk : k < 2) : gK Q (B + 66) = 11 ∧ inb (nI k) (gN Q (B + 66)) := by
  have a : gK Q (B + 66) = 11 := by
    show Q.2.2.2.1 (B + 66) = _
    rw [h]; simp only [hD]
  have b : gN Q (B + 66) = 2 := by
    show Q.2.2.2.2.1 (B + 66) = _
    rw [h]; simp only [hD]
  exact ⟨a, by rw [b]; exact nI_in hk (by omega)⟩
theorem r_63 (hD : RfA B P.2.2) : ∀ (e i m : Nat) (Q : Mm), Q.2 = P.2 → i + e = 80 → e < m → (∀ k, k < i → Q.1 (B + 62) k = nI 0) → ∃ R, f_X8_text_63 m (B + 59) (nI i) Q = f_X8_text_84 FU (B + 59) (0 : Int32) R ∧ R.2 = P.2 ∧ (∀ b, b ≠ B + 62 → R.1 b = Q.1 b) ∧ ∀ k, k < 80 → R.1 (B + 62) k = nI 0 := by
  intro e
  induction e with
  | zero =>
    intro i m Q hQ hi hm hk
    obtain ⟨m, rfl⟩ : ∃ q, m = q + 1 := ⟨m - 1, by omega⟩
    have ei : i = 80 := by omega
    subst ei
    exact ⟨Q, by rw [f_X8_text_63, if_pos (by decide)], hQ, fun _ _ => rfl, hk⟩
  | succ e ih =>
    intro i m Q hQ hi hm hk
    obtain ⟨m, rfl⟩ : ∃ q, m = q + 1 := ⟨m - 1, by omega⟩
    obtain ⟨R, q1, q2, q3, q4⟩ := ih (i + 1) m (sI Q (B + 62) i (0 : Int32)) hQ (by omega) (by omega) (fun k hk2 => by
      by_cases e : k = i
      · rw [e, sI_hit]; rfl
      · rw [sI_oth e]; exact hk k (by omega))
    refine ⟨R, ?_, q2, fun b hb => by rw [q3 b hb, sI_ne hb], q4⟩
    rw [f_X8_text_63, if_neg (show ¬ (80 : Int32) ≤ nI i by rw [show (80 : Int32) = nI 80 from rfl, nI_leI (by omega) (by omega)]; omega), ck_t (rk8 hD hQ), rr12 hD hQ, bR_s, ck_t (ri hD hQ (by omega)).1, nm_s, sIc (by omega), nI_1]
    exact q1
theorem r_84 (hD : RfA B P.2.2) : ∀ (e i m : Nat) (Q : Mm), Q.2 = P.2 → i + e = 1407 → e < m → (∀ k, k < i → Q.1 (B + 64) k = nI 0) → ∃ R, f_X8_text_84 m (B + 59) (nI i) Q = (bd (f_X8_go (B + 59) R) fun _ M1 => f_X8_text_110 FU (B + 59) (1 : Int32) M1) ∧ R.2 = P.2 ∧ (∀ b, b ≠ B + 64 → R.1 b = Q.1 b) ∧ ∀ k, k < 1407 → R.1 (B + 64) k = nI 0 := by
  intro e
  induction e with
  | zero =>
    intro i m Q hQ hi hm hk
    obtain ⟨m, rfl⟩ : ∃ q, m = q + 1 := ⟨m - 1, by omega⟩
    have ei : i = 1407 := by omega
    subst ei
    exact ⟨Q, by rw [f_X8_text_84, if_pos (by decide), ck_t (rk8 hD hQ)], hQ, fun _ _ => rfl, hk⟩
  | succ e ih =>
    intro i m Q hQ hi hm hk
    obtain ⟨m, rfl⟩ : ∃ q, m = q + 1 := ⟨m - 1, by omega⟩
    obtain ⟨R, q1, q2, q3, q4⟩ := ih (i + 1) m (sI Q (B + 64) i (0 : Int32)) hQ (by omega) (by omega) (fun k hk2 => by
      by_cases e : k = i
      · rw [e, sI_hit]; rfl
      · rw [sI_oth e]; exact hk k (by omega))
    refine ⟨R, ?_, q2, fun b hb => by rw [q3 b hb, sI_ne hb], q4⟩
    rw [f_X8_text_84, if_neg (show ¬ (1407 : Int32) ≤ nI i by rw [show (1407 : Int32) = nI 1407 from rfl, nI_leI (by omega) (by omega)]; omega), ck_t (rk8 hD hQ), rr18 hD hQ, bR_s, ck_t (ri4 hD hQ (by omega)), nm_s, sIc (by omega), nI_1]
    exact q1
/-- what stands behind a text that was read -/
def EndR (B : Nat) (P : Mm) (T S : Td) (Q : Mm) : Prop := Q.2 = P.2 ∧ RW 80 (Q.1 (B + 61)) T ∧ RW 1407 (Q.1 (B + 63)) S ∧ Q.1 (B + 59) 23 = nI 0 ∧ (∀ k, k < 2 → Q.1 (B + 66) k = nI 0) ∧ (∀ b, b ≠ B + 59 → b ≠ B + 61 → b ≠ B + 63 → b ≠ B + 66 → Q.1 b = P.1 b) ∧ ∀ j, j ≠ 23 → Q.1 (B + 59) j = P.1 (B + 59) j
theorem r_fin (hD : RfA B P.2.2) (h61 : RW 80 (P.1 (B + 61)) T) (h64 : RW 1407 (P.1 (B + 64)) S) (h16 : P.1 (B + 59) 16 = nI ln) (m : Nat) : ∃ Q, f_X8_text_179 (m + 1) (B + 59) (80 : Int32) P = some (nI ln, Q) ∧ EndR B P T S Q := by
  have k63 : P.2.2.2.1 (B + 63) = 10 := by simp only [hD]
  have n63 : P.2.2.2.2.1 (B + 63) = 1407 := by simp only [hD]
  have k64 : P.2.2.2.1 (B + 64) = 10 := by simp only [hD]
  have n64 : P.2.2.2.2.1 (B + 64) = 1407 := by simp only [hD]
  have cp : f_X8_copies (B + 64) (0 : Int32) (B + 63) (0 : Int32) P = some ((), cpM P (B + 64) (B + 63) 0 0 1407) := q_copies (s := B + 64) (d := B + 63) (o1 := 0) (o2 := 0) (M := P) k64 k63 n64 n63 (by omega) (by omega) (by omega) (by omega) (by omega)
  have c2 : (cpM P (B + 64) (B + 63) 0 0 1407).2 = P.2 := rfl
  have co : ∀ b, b ≠ B + 63 → (cpM P (B + 64) (B + 63) 0 0 1407).1 b = P.1 b := fun b hb => cpM_o hb
  have ci : RW 1407 ((cpM P (B + 64) (B + 63) 0 0 1407).1 (B + 63)) S := fun k hk => by
    have := cpM_in (M := P) (s := B + 64) (d := B + 63) (o1 := 0) (o2 := 0) hk
    rw [Nat.zero_add] at this
    rw [this]; exact h64 k hk
  rw [f_X8_text_179, if_pos (by decide), ck_t (rk8 hD rfl), rr18 hD rfl, bR_s, ck_t (rk8 hD rfl), rr17 hD rfl, bR_s, cp, bd_s]
  generalize cpM P (B + 64) (B + 63) 0 0 1407 = P3 at c2 co ci ⊢
  have nb : vp_nar .boolean (0 : Int32) = (0 : Int32) := by decide
  have i0 : gK (sI P3 (B + 59) 23 (0 : Int32)) (B + 66) = 11 ∧ inb (0 : Int32) (gN (sI P3 (B + 59) 23 (0 : Int32)) (B + 66)) := ri6 (k := 0) hD c2 (by omega)
  have i1 : gK (sI (sI P3 (B + 59) 23 (0 : Int32)) (B + 66) ((0 : Int32)).toNatClampNeg (0 : Int32)) (B + 66) = 11 ∧ inb (1 : Int32) (gN (sI (sI P3 (B + 59) 23 (0 : Int32)) (B + 66) ((0 : Int32)).toNatClampNeg (0 : Int32)) (B + 66)) := ri6 (k := 1) hD c2 (by omega)
  rw [ck_t (rk8 hD c2), nm_s, ck_t (rk8 (Q := sI P3 (B + 59) 23 (0 : Int32)) hD c2), rr25 (Q := sI P3 (B + 59) 23 (0 : Int32)) hD c2, bR_s, ck_t i0, nm_s, nb, ck_t (rk8 (Q := sI (sI P3 (B + 59) 23 (0 : Int32)) (B + 66) ((0 : Int32)).toNatClampNeg (0 : Int32)) hD c2), rr25 (Q := sI (sI P3 (B + 59) 23 (0 : Int32)) (B + 66) ((0 : Int32)).toNatClampNeg (0 : Int32)) hD c2, bR_s, ck_t i1, nm_s, ck_t (rk8 (Q := sI (sI (sI P3 (B + 59) 23 (0 : Int32)) (B + 66) ((0 : Int32)).toNatClampNeg (0 : Int32)) (B + 66) ((1 : Int32)).toNatClampNeg (0 : Int32)) hD c2)]
  have e0 : ((0 : Int32)).toNatClampNeg = 0 := by decide
  have e1 : ((1 : Int32)).toNatClampNeg = 1 := by decide
  rw [e0, e1]
  have s16 : gI (sI (sI (sI P3 (B + 59) 23 (0 : Int32)) (B + 66) 0 (0 : Int32)) (B + 66) 1 (0 : Int32)) (B + 59) 16 = nI ln := by
    show (sI (sI (sI P3 (B + 59) 23 (0 : Int32)) (B + 66) 0 (0 : Int32)) (B + 66) 1 (0 : Int32)).1 (B + 59) 16 = _
    rw [sI_ne (by omega), sI_ne (by omega), sI_oth (by omega), co _ (by omega)]; exact h16
  refine ⟨sI (sI (sI P3 (B + 59) 23 (0 : Int32)) (B + 66) 0 (0 : Int32)) (B + 66) 1 (0 : Int32), by rw [s16], c2, ?_, ?_, ?_, fun k hk => ?_, fun b b1 b2 b3 b4 => ?_, fun j hj => ?_⟩
  · rw [sI_ne (by omega), sI_ne (by omega), sI_ne (by omega), co _ (by omega)]; exact h61
  · rw [sI_ne (by omega), sI_ne (by omega), sI_ne (by omega)]; exact ci
  · rw [sI_ne (by omega), sI_ne (by omega), sI_hit]; rfl
  · by_cases e : k = 1
    · rw [e, sI_hit]; rfl
    · have e2 : k = 0 := by omega
      rw [e2, sI_oth (by omega), sI_hit]; rfl
  · rw [sI_ne b4, sI_ne b4, sI_ne b1, co b b3]
  · rw [sI_ne (by omega), sI_ne (by omega), sI_oth hj, co _ (by omega)]
theorem r_179 (hD : RfA B P.2.2) (h62 : RW 80 (P.1 (B + 62)) T) (h64 : RW 1407 (P.1 (B + 64)) S) (h16 : P.1 (B + 59) 16 = nI ln) : ∀ (e i m : Nat) (Q : Mm), Q.2 = P.2 → (∀ b, b ≠ B + 61 → Q.1 b = P.1 b) → (∀ k, k < i → Q.1 (B + 61) k = nI (T k)) → i + e = 80 → e < m → ∃ R, f_X8_text_179 m (B + 59) (nI i) Q = some (nI ln, R) ∧ EndR B P T S R := by
  intro e
  induction e with
  | zero =>
    intro i m Q hQ ho hk hi hm
    obtain ⟨m, rfl⟩ : ∃ q, m = q + 1 := ⟨m - 1, by omega⟩
    have ei : i = 80 := by omega
    subst ei
    obtain ⟨R, q1, q2, q3, q4, q5, q6, q7, q8⟩ := r_fin (P := Q) (by rw [hQ]; exact hD) hk (by rw [ho _ (by omega)]; exact h64) (by rw [ho _ (by omega)]; exact h16) m
    exact ⟨R, q1, q2.trans hQ, q3, q4, q5, q6, fun b b1 b2 b3 b4 => by rw [q7 b b1 b2 b3 b4, ho b b2], fun j hj => by rw [q8 j hj, ho _ (by omega)]⟩
  | succ e ih =>
    intro i m Q hQ ho hk hi hm
    obtain ⟨m, rfl⟩ : ∃ q, m = q + 1 := ⟨m - 1, by omega⟩
    have ev : gI Q (B + 62) i = nI (T i) := by
      show Q.1 (B + 62) i = _
      rw [ho _ (by omega)]; exact h62 i (by omega)
    obtain ⟨R, q1, q2⟩ := ih (i + 1) m (sI Q (B + 61) i (nI (T i))) hQ (fun b hb => by rw [sI_ne hb, ho b hb]) (fun k hk2 => by
      by_cases e : k = i
      · rw [e, sI_hit]
      · rw [sI_oth e]; exact hk k (by omega)) (by omega) (by omega)
    refine ⟨R, ?_, q2⟩
    rw [f_X8_text_179, if_neg (show ¬ (80 : Int32) ≤ nI i by rw [show (80 : Int32) = nI 80 from rfl, nI_leI (by omega) (by omega)]; omega), ck_t (rk8 hD hQ), rr11 hD hQ, bR_s, ck_t (rk8 hD hQ), rr12 hD hQ, bR_s, ck_t (ri hD hQ (by omega)).1, ck_t (ri hD hQ (by omega)).2, nm_s, gIc (by omega), ev, sIc (by omega), nI_1]
    exact q1
end TZ5
