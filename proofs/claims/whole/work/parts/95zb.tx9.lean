/-! text: the class's advance -/
section TX9
variable {B n p f m v : Nat} {tp : Nat → Nat} {M N P Q : Mm}
theorem tkC_3 : tkC n tp f ≤ 3 := by
  unfold tkC tkK
  (repeat' split) <;> omega
theorem c_60 (h : GC B M n tp) (h5 : M.1 (B + 28) 5 = nI f) (hf : f ≤ n) : f_X3_advance_60 (B + 28) M = f_X3_advance_96 (B + 28) (nI (tkC n tp f)) (B + 28) (sI M (B + 28) 6 (nI f)) := by
  have hD : CmD B M.2.2 := h.1
  have n7 := h.2.2.1
  have h2 := h.sI (j := 6) (v := nI f) (by omega)
  have s2 := h2.2.1
  have s5 : (sI M (B + 28) 6 (nI f)).1 (B + 28) 5 = nI f := by rw [sI_oth (by omega)]; exact h5
  by_cases e : f < n
  · obtain ⟨b, t8⟩ := h2.2.2.2 f e
    have e0 : ¬ n ≤ f := by omega
    have ck := c_kind t8 (M := sI M (B + 28) 6 (nI f))
    have ek : (if 97 ≤ tp f ∧ tp f ≤ 122 then 1 else if 48 ≤ tp f ∧ tp f ≤ 57 then 2 else if tp f = 59 then 3 else 0) = tkC n tp f := by
      unfold tkC tkK
      rw [if_neg e0]
      (repeat' split) <;> omega
    rw [ek] at ck
    simp (disch := omega) only [f_X3_advance_60, reduceIte, ↓reduceIte, ↓ck_i, ↓nm_s, ↓bR_i, ↓bd_i, Option.isSome_some, Option.getD_some, gK, gR, gN, gIs, inb_nI, and_self, nI_clamp, fa_lit, pk_mul, nI_add, n10, n1z, n00, eq_self, not_true_eq_false, not_false_eq_true, hD.a, h5, s5, s2, sI_r, nI_leI, e0, b, ck]
  · have e0 : n ≤ f := by omega
    have ek : tkC n tp f = 0 := by
      unfold tkC tkK
      rw [if_pos e0, if_neg (by decide)]
    rw [ek]
    simp (disch := omega) only [f_X3_advance_60, reduceIte, ↓reduceIte, ↓ck_i, ↓nm_s, ↓bR_i, ↓bd_i, Option.isSome_some, Option.getD_some, gK, gR, gN, gIs, inb_nI, and_self, nI_clamp, fa_lit, pk_mul, nI_add, n10, n1z, n00, eq_self, not_true_eq_false, not_false_eq_true, hD.a, h5, s5, s2, sI_r, nI_leI, e0]
theorem c_adv (h : GC B M n tp) (h6 : M.1 (B + 28) 6 = nI p) (hp : p ≤ n) : ∃ N, f_X3_advance (B + 28) M = some ((), N) ∧ KTc B M N ∧ TkC B N n tp (skB tp (n - p) p) := by
  have hD : CmD B M.2.2 := h.1
  have n7 := h.2.2.1
  have k3 : gK M (B + 28) = 3 := by simp (disch := omega) only [reduceIte, ↓reduceIte, ↓ck_i, ↓nm_s, ↓bR_i, ↓bd_i, Option.isSome_some, Option.getD_some, gK, gR, gN, gIs, inb_nI, and_self, nI_clamp, fa_lit, pk_mul, nI_add, n10, n1z, n00, eq_self, not_true_eq_false, not_false_eq_true, hD.a]
  have le := skB_le (tp := tp) (d := n - p) (k := p)
  have e1 : f_X3_advance (B + 28) M = f_X3_advance_8 FU (B + 28) (sI M (B + 28) 5 (nI p)) := by
    rw [f_X3_advance, ck_t k3, ck_t k3, nm_s, show gI M (B + 28) 6 = nI p from h6]
  generalize hf : skB tp (n - p) p = f at *
  have c3 := tkC_3 (n := n) (tp := tp) (f := f)
  rw [e1, c_skip (n - p) p FU _ (h.sI (by omega)) sI_hit (by omega) (by unfold FU; omega), sI_sI, hf, c_60 ((h.sI (by omega))) sI_hit (by omega), c_96 ((h.sI (by omega)).sI (by omega)) c3]
  generalize hM2 : sI (sI M (B + 28) 5 (nI f)) (B + 28) 6 (nI f) = M2
  have g2 : GC B M2 n tp := by rw [← hM2]; exact (h.sI (by omega)).sI (by omega)
  have k2 : KTc B M M2 := by rw [← hM2]; exact ⟨rfl, fun b hb => by rw [sI_ne hb, sI_ne hb], fun j hj => by rw [sI_oth (by omega), sI_oth (by omega)]⟩
  have m5 : M2.1 (B + 28) 5 = nI f := by rw [← hM2, sI_oth (by omega), sI_hit]
  have m6 : M2.1 (B + 28) 6 = nI f := by rw [← hM2, sI_hit]
  have k4 : ∀ w, KTc B M (sI M2 (B + 28) 4 w) := fun w => k2.tr ⟨rfl, fun b hb => sI_ne hb, fun j hj => sI_oth (by omega)⟩
  have k7 : ∀ R : Mm, KTc B R (sI R (B + 28) 7 (nI 0)) := fun R => ⟨rfl, fun b hb => sI_ne hb, fun j hj => sI_oth (by omega)⟩
  by_cases c0 : tkC n tp f = 3
  · rw [if_pos c0]
    have hK : tkK n tp f = 3 := by unfold tkC at c0; split at c0 <;> omega
    have hE : tkE n tp f = f + 1 := by unfold tkE; rw [hK, if_neg (by decide), if_neg (by decide), if_neg (by decide)]
    refine ⟨_, rfl, (k4 (nI 3)).tr ⟨rfl, fun b hb => sI_ne hb, fun j hj => sI_oth (by omega)⟩, ?_, ?_, fun _ => ?_, fun q => by omega, fun q => by omega⟩
    · rw [sI_oth (by omega), sI_oth (by omega)]; exact m5
    · rw [sI_oth (by omega), sI_hit, c0]
    · rw [sI_hit, m5, hE]; exact nI_1 f
  · rw [if_neg c0]
    by_cases c1 : tkC n tp f = 0
    · rw [if_pos c1]
      have hK : tkK n tp f = 4 ∨ tkK n tp f = 0 := by unfold tkC at c1; split at c1 <;> omega
      refine ⟨_, rfl, k4 (nI 0), ?_, ?_, fun q => ?_, fun q => by omega, fun q => by omega⟩
      · rw [sI_oth (by omega)]; exact m5
      · rw [sI_hit, c1]
      · rw [sI_oth (by omega), m6]
        unfold tkE
        rw [if_pos (by omega)]
    · rw [if_neg c1]
      have hK : tkK n tp f = tkC n tp f := by
        unfold tkC at c1 ⊢
        by_cases e4 : tkK n tp f = 4
        · rw [if_pos e4] at c1; exact absurd rfl c1
        · rw [if_neg e4]
      have hC : tkC n tp f = 1 ∨ tkC n tp f = 2 := by omega
      rcases hC with hC | hC
      · rw [hC] at hK
        have hE : tkE n tp f = rnB 97 122 tp (n - f) f := by unfold tkE; rw [hK, if_neg (by decide), if_pos rfl]
        rw [hC, c_ta1 (g2.sI (by omega)) sI_hit]
        obtain ⟨N, q1, q2, q3, q4, q5, q6⟩ := c_w_lp (B := B) (f := f) (n - f) f FU (sI (sI M2 (B + 28) 4 (nI 1)) (B + 28) 7 (nI 0)) ((g2.sI (by omega)).sI (by omega)) (by rw [sI_oth (by omega), sI_oth (by omega)]; exact m5) (by rw [sI_oth (by omega), sI_oth (by omega)]; exact m6) (by rw [sI_hit, Nat.sub_self]; rfl) (Nat.le_refl _) (fun q _ _ => by omega) (by omega) (by unfold FU; omega)
        refine ⟨N, q1, ((k4 (nI 1)).tr (k7 _)).tr q2, q4, ?_, fun _ => by rw [hE]; exact q5, fun _ => by rw [hE]; exact q6, fun q => by omega⟩
        rw [q3, sI_oth (by omega), sI_hit, hC]
      · rw [hC] at hK
        have hE : tkE n tp f = rnB 48 57 tp (n - f) f := by unfold tkE; rw [hK, if_neg (by decide), if_neg (by decide), if_pos rfl]
        rw [hC, c_ta2 (g2.sI (by omega)) sI_hit]
        obtain ⟨N, q1, q2, q3, q4, q5, q6⟩ := c_n_lp (B := B) (f := f) (n - f) f FU (sI (sI M2 (B + 28) 4 (nI 2)) (B + 28) 7 (nI 0)) ((g2.sI (by omega)).sI (by omega)) (by rw [sI_oth (by omega), sI_oth (by omega)]; exact m5) (by rw [sI_oth (by omega), sI_oth (by omega)]; exact m6) (by rw [sI_hit, Nat.sub_self]; rfl) (Nat.le_refl _) (fun q _ _ => by omega) (by omega) (by unfold FU; omega)
        refine ⟨N, q1, ((k4 (nI 2)).tr (k7 _)).tr q2, q4, ?_, fun _ => by rw [hE]; exact q5, fun q => by omega, fun _ => by rw [hE]; exact q6⟩
        rw [q3, sI_oth (by omega), sI_hit, hC]
end TX9
