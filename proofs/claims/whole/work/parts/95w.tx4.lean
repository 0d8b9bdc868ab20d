/-! text: a whole word, a whole number -/
/-- the reference changed nothing but its token -/
def KTk (B : Nat) (P Q : Mm) : Prop := Q.2 = P.2 ∧ (∀ b, b ≠ B + 59 → Q.1 b = P.1 b) ∧ ∀ j, (j < 4 ∨ 8 < j) → Q.1 (B + 59) j = P.1 (B + 59) j
section TX4
variable {B n p f m v : Nat} {tp : Nat → Nat} {P Q R : Mm}
theorem KTk.tr (h : KTk B P Q) (g : KTk B Q R) : KTk B P R := ⟨g.1.trans h.1, fun b hb => (g.2.1 b hb).trans (h.2.1 b hb), fun j hj => (g.2.2 j hj).trans (h.2.2 j hj)⟩
theorem g_w_lp : ∀ (d p m : Nat) (P : Mm), GT B P n tp → P.1 (B + 59) 4 = nI f → P.1 (B + 59) 5 = nI p → P.1 (B + 59) 8 = wI 32 96 6 tp f (p - f) → f ≤ p → (∀ q, f ≤ q → q < p → 97 ≤ tp q ∧ tp q ≤ 122) → p + d = n → d < m → ∃ Q, f_X8_go_92 m (B + 59) P = some ((), Q) ∧ KTk B P Q ∧ Q.1 (B + 59) 4 = nI f ∧ Q.1 (B + 59) 5 = nI (rnB 97 122 tp d p) ∧ Q.1 (B + 59) 6 = nI 1 ∧ Q.1 (B + 59) 7 = P.1 (B + 59) 7 ∧ Q.1 (B + 59) 8 = wI 32 96 6 tp f (rnB 97 122 tp d p - f) := by
  have fin : ∀ (d p m : Nat) (P : Mm), GT B P n tp → P.1 (B + 59) 4 = nI f → P.1 (B + 59) 5 = nI p → P.1 (B + 59) 8 = wI 32 96 6 tp f (p - f) → p + d = n → d < m → (p = n ∨ ¬ (97 ≤ tp p ∧ tp p ≤ 122)) → rnB 97 122 tp d p = p → ∃ Q, f_X8_go_92 m (B + 59) P = some ((), Q) ∧ KTk B P Q ∧ Q.1 (B + 59) 4 = nI f ∧ Q.1 (B + 59) 5 = nI (rnB 97 122 tp d p) ∧ Q.1 (B + 59) 6 = nI 1 ∧ Q.1 (B + 59) 7 = P.1 (B + 59) 7 ∧ Q.1 (B + 59) 8 = wI 32 96 6 tp f (rnB 97 122 tp d p - f) := by
    intro d p m P h h4 h5 h8 hd hm hb er
    obtain ⟨m, rfl⟩ : ∃ q, m = q + 1 := ⟨m - 1, by omega⟩
    rw [er]
    exact ⟨_, g_w_out h h5 (by omega) hb, ⟨rfl, fun b hb => sI_ne hb, fun j hj => sI_oth (by omega)⟩, by rw [sI_oth (by omega)]; exact h4, by rw [sI_oth (by omega)]; exact h5, sI_hit, sI_oth (by omega), by rw [sI_oth (by omega)]; exact h8⟩
  intro d
  induction d with
  | zero =>
    intro p m P h h4 h5 h8 hf hl hd hm
    exact fin 0 p m P h h4 h5 h8 hd hm (Or.inl (by omega)) rfl
  | succ d ih =>
    intro p m P h h4 h5 h8 hf hl hd hm
    by_cases e : 97 ≤ tp p ∧ tp p ≤ 122
    · obtain ⟨m, rfl⟩ : ∃ q, m = q + 1 := ⟨m - 1, by omega⟩
      have er : rnB 97 122 tp (d + 1) p = rnB 97 122 tp d (p + 1) := if_pos e
      rw [er]
      have step : f_X8_go_92 (m + 1) (B + 59) P = f_X8_go_92 m (B + 59) (sI (sI P (B + 59) 8 (wI 32 96 6 tp f (p + 1 - f))) (B + 59) 5 (nI (p + 1))) := by
        by_cases h6 : p - f < 6
        · have vb := wvB_32 (tp := tp) (f := f) (p - f) (fun q hq => hl (f + q) (by omega) (by omega))
          have vp : 32 ^ (p - f) ≤ 32 ^ (6 - 1) := Nat.pow_le_pow_right (by omega) (by omega)
          have vc : 32 ^ (6 - 1) ≤ 2 ^ 25 := by decide
          unfold wI at h8 ⊢
          rw [if_pos (by omega)] at h8
          rw [if_pos (by omega), show p + 1 - f = (p - f) + 1 by omega]
          have e9 : wvB 32 96 tp f (p - f + 1) = 32 * wvB 32 96 tp f (p - f) + (tp p - 96) := by
            show 32 * wvB 32 96 tp f (p - f) + (tp (f + (p - f)) - 96) = _
            rw [show f + (p - f) = p by omega]
          rw [e9]
          exact g_w_in h h4 h5 h8 hf (by omega) e h6 (Nat.lt_of_lt_of_le vb (Nat.le_trans vp vc))
        · unfold wI
          rw [if_neg (by omega)]
          exact g_w_many h h4 h5 hf (by omega) e (by omega)
      rw [step]
      obtain ⟨Q, q1, q2, q3, q4, q5, q6, q7⟩ := ih (p + 1) m (sI (sI P (B + 59) 8 (wI 32 96 6 tp f (p + 1 - f))) (B + 59) 5 (nI (p + 1))) ((h.sI (by omega)).sI (by omega)) (by rw [sI_oth (by omega), sI_oth (by omega)]; exact h4) sI_hit (by rw [sI_oth (by omega), sI_hit]) (by omega) (fun q a1 a2 => by
        by_cases eq : q = p
        · rw [eq]; exact e
        · exact hl q a1 (by omega)) (by omega) (by omega)
      refine ⟨Q, q1, ⟨q2.1, fun b hb => ?_, fun j hj => ?_⟩, q3, q4, q5, ?_, q7⟩
      · rw [q2.2.1 b hb, sI_ne hb, sI_ne hb]
      · rw [q2.2.2 j hj, sI_oth (by omega), sI_oth (by omega)]
      · rw [q6, sI_oth (by omega), sI_oth (by omega)]
    · exact fin (d + 1) p m P h h4 h5 h8 hd hm (Or.inr e) (if_neg e)
theorem g_n_lp : ∀ (d p m : Nat) (P : Mm), GT B P n tp → P.1 (B + 59) 4 = nI f → P.1 (B + 59) 5 = nI p → P.1 (B + 59) 7 = wI 10 48 5 tp f (p - f) → f ≤ p → (∀ q, f ≤ q → q < p → 48 ≤ tp q ∧ tp q ≤ 57) → p + d = n → d < m → ∃ Q, f_X8_go_189 m (B + 59) P = some ((), Q) ∧ KTk B P Q ∧ Q.1 (B + 59) 4 = nI f ∧ Q.1 (B + 59) 5 = nI (rnB 48 57 tp d p) ∧ Q.1 (B + 59) 6 = nI 2 ∧ Q.1 (B + 59) 8 = P.1 (B + 59) 8 ∧ Q.1 (B + 59) 7 = wI 10 48 5 tp f (rnB 48 57 tp d p - f) := by
  have fin : ∀ (d p m : Nat) (P : Mm), GT B P n tp → P.1 (B + 59) 4 = nI f → P.1 (B + 59) 5 = nI p → P.1 (B + 59) 7 = wI 10 48 5 tp f (p - f) → p + d = n → d < m → (p = n ∨ ¬ (48 ≤ tp p ∧ tp p ≤ 57)) → rnB 48 57 tp d p = p → ∃ Q, f_X8_go_189 m (B + 59) P = some ((), Q) ∧ KTk B P Q ∧ Q.1 (B + 59) 4 = nI f ∧ Q.1 (B + 59) 5 = nI (rnB 48 57 tp d p) ∧ Q.1 (B + 59) 6 = nI 2 ∧ Q.1 (B + 59) 8 = P.1 (B + 59) 8 ∧ Q.1 (B + 59) 7 = wI 10 48 5 tp f (rnB 48 57 tp d p - f) := by
    intro d p m P h h4 h5 h8 hd hm hb er
    obtain ⟨m, rfl⟩ : ∃ q, m = q + 1 := ⟨m - 1, by omega⟩
    rw [er]
    exact ⟨_, g_n_out h h5 (by omega) hb, ⟨rfl, fun b hb => sI_ne hb, fun j hj => sI_oth (by omega)⟩, by rw [sI_oth (by omega)]; exact h4, by rw [sI_oth (by omega)]; exact h5, sI_hit, sI_oth (by omega), by rw [sI_oth (by omega)]; exact h8⟩
  intro d
  induction d with
  | zero =>
    intro p m P h h4 h5 h8 hf hl hd hm
    exact fin 0 p m P h h4 h5 h8 hd hm (Or.inl (by omega)) rfl
  | succ d ih =>
    intro p m P h h4 h5 h8 hf hl hd hm
    by_cases e : 48 ≤ tp p ∧ tp p ≤ 57
    · obtain ⟨m, rfl⟩ : ∃ q, m = q + 1 := ⟨m - 1, by omega⟩
      have er : rnB 48 57 tp (d + 1) p = rnB 48 57 tp d (p + 1) := if_pos e
      rw [er]
      have step : f_X8_go_189 (m + 1) (B + 59) P = f_X8_go_189 m (B + 59) (sI (sI P (B + 59) 7 (wI 10 48 5 tp f (p + 1 - f))) (B + 59) 5 (nI (p + 1))) := by
        by_cases h6 : p - f < 5
        · have vb := wvB_10 (tp := tp) (f := f) (p - f) (fun q hq => hl (f + q) (by omega) (by omega))
          have vp : 10 ^ (p - f) ≤ 10 ^ (5 - 1) := Nat.pow_le_pow_right (by omega) (by omega)
          have vc : 10 ^ (5 - 1) ≤ 2 ^ 25 := by decide
          unfold wI at h8 ⊢
          rw [if_pos (by omega)] at h8
          rw [if_pos (by omega), show p + 1 - f = (p - f) + 1 by omega]
          have e9 : wvB 10 48 tp f (p - f + 1) = 10 * wvB 10 48 tp f (p - f) + (tp p - 48) := by
            show 10 * wvB 10 48 tp f (p - f) + (tp (f + (p - f)) - 48) = _
            rw [show f + (p - f) = p by omega]
          rw [e9]
          exact g_n_in h h4 h5 h8 hf (by omega) e h6 (Nat.lt_of_lt_of_le vb (Nat.le_trans vp vc))
        · unfold wI
          rw [if_neg (by omega)]
          exact g_n_many h h4 h5 hf (by omega) e (by omega)
      rw [step]
      obtain ⟨Q, q1, q2, q3, q4, q5, q6, q7⟩ := ih (p + 1) m (sI (sI P (B + 59) 7 (wI 10 48 5 tp f (p + 1 - f))) (B + 59) 5 (nI (p + 1))) ((h.sI (by omega)).sI (by omega)) (by rw [sI_oth (by omega), sI_oth (by omega)]; exact h4) sI_hit (by rw [sI_oth (by omega), sI_hit]) (by omega) (fun q a1 a2 => by
        by_cases eq : q = p
        · rw [eq]; exact e
        · exact hl q a1 (by omega)) (by omega) (by omega)
      refine ⟨Q, q1, ⟨q2.1, fun b hb => ?_, fun j hj => ?_⟩, q3, q4, q5, ?_, q7⟩
      · rw [q2.2.1 b hb, sI_ne hb, sI_ne hb]
      · rw [q2.2.2 j hj, sI_oth (by omega), sI_oth (by omega)]
      · rw [q6, sI_oth (by omega), sI_oth (by omega)]
    · exact fin (d + 1) p m P h h4 h5 h8 hd hm (Or.inr e) (if_neg e)
end TX4
