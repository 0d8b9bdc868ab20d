/-- of a question: nothing but the row of years changed -/
def KO (B : Nat) (M N : Mm) : Prop := N.2 = M.2 ∧ ∀ a, a < B + 44 ∨ B + 53 ≤ a → N.1 a = M.1 a
def KT (B : Nat) (M N : Mm) : Prop := N.2 = M.2 ∧ (∀ a, a ≠ B + 59 → a ≠ B + 68 → N.1 a = M.1 a) ∧ ∀ j, j < 19 ∨ 22 < j → N.1 (B + 59) j = M.1 (B + 59) j
theorem KO.tr {B : Nat} {M N P : Mm} (h : KO B M N) (g : KO B N P) : KO B M P := ⟨g.1.trans h.1, fun a ha => (g.2 a ha).trans (h.2 a ha)⟩
theorem KO.c {B : Nat} {M N : Mm} (h : KO B M N) : KC B M N := ⟨by rw [h.1], fun a ha => h.2 a (by omega), by rw [h.1]⟩
theorem KT.r {B : Nat} {M N : Mm} (h : KT B M N) : KR B M N := ⟨by rw [h.1], fun a h1 h2 _ => h.2.1 a h1 h2, h.2.2 2 (by omega), h.2.2 23 (by omega), by rw [h.1]⟩
section KPS
variable {B t c l : Nat} {T S : Nat → Nat} {M N : Mm}
theorem RQ.th2 {j : Nat} {v : Int32} (h : RQ B M T S c) : RQ B (sI M (B + 68) j v) T S c := h.keep rfl (sI_ne (by omega)) (sI_ne (by omega))
theorem KT.tr {P : Mm} (h : KT B M N) (g : KT B N P) : KT B M P := ⟨g.1.trans h.1, fun a h1 h2 => (g.2.1 a h1 h2).trans (h.2.1 a h1 h2), fun j hj => (g.2.2 j hj).trans (h.2.2 j hj)⟩
theorem CQ.kp (h : CQ B t M T S c) (ht : t + 14 ≤ B + 44) (hs : N.2.2 = M.2.2) (hi : ∀ a, a < B + 44 → N.1 a = M.1 a) : CQ B t N T S c := by
  obtain ⟨h1, h2, h3, h4, h5, h6, h7, h8⟩ := h
  exact ⟨by rw [hs]; exact h1, by rw [hs]; exact h2, by rw [hs]; exact h3, by rw [hs]; exact h4, h5, h6.of (fun b b1 b2 => hi b (by omega)), h7.of (fun b b1 b2 => hi b (by omega)), h8⟩
theorem cp_ok {src dst sp n ns : Nat} {M : Mm} (k1 : M.2.2.2.1 src = 10) (k2 : M.2.2.2.1 dst = 10) (n1 : M.2.2.2.2.1 src = ns) (n2 : M.2.2.2.2.1 dst = n) (h : sp + n ≤ ns) (hb : ns < 2 ^ 31) : cpOk M src (nI sp) dst (nI 0) (nI n) := by
  have e0 : (nI 0).toNatClampNeg = 0 := by decide
  refine ⟨k1, k2, nI_pos (by omega), by decide, nI_pos (by omega), ?_, ?_⟩
  · show _ ≤ M.2.2.2.2.1 src
    rw [nI_clamp (by omega), nI_clamp (by omega), n1]; exact h
  · show _ ≤ M.2.2.2.2.1 dst
    rw [e0, nI_clamp (by omega), n2]; omega
end KPS
section ROWR
variable {B t c l y s f p : Nat} {T S : Nat → Nat} {M N : Mm}
theorem gIf (M : Mm) (a : Nat) : gI M a = M.1 a := rfl
theorem ofnI (n : Nat) : Int32.ofNat n = nI n := rfl
theorem p_open (hQ : CQ B t M T S c) (ht : t + 14 ≤ B + 44) (hl : l < T 0) : ∃ N, f_X4_open (B + 44) t (B + 15) (nI l) M = some ((), N) ∧ KO B M N ∧ RO B N T S l := by
  have w := (hQ.2.2.2.2.1.2.2 l hl).2.2.2.2.2.2.1
  have w0 := hQ.2.2.2.2.1.1
  have hM : CQ B t (sI (sI (sI (sI (sI (sI (sI (sI M (B + 44) 0 (nI (T (12 + 7 * l)))) (B + 44) 1 (nI (T (12 + 7 * l + 1)))) (B + 44) 2 (nI (T (12 + 7 * l + 2)))) (B + 44) 3 (nI (T (12 + 7 * l + 4)))) (B + 44) 4 (nI (T (12 + 7 * l + 5)))) (B + 44) 5 (nI (S (1211 + l)))) (B + 44) 8 (nI (S 1206 + 1))) (B + 44) 9 (nI (T (12 + 7 * l + 3)))) T S c := hQ.kp ht rfl (fun a ha => by rw [sI_ne (by omega), sI_ne (by omega), sI_ne (by omega), sI_ne (by omega), sI_ne (by omega), sI_ne (by omega), sI_ne (by omega), sI_ne (by omega)])
  have hct := p_countBonds hM hl (st := 0) (by omega)
  have k1 := eq_true (show cpOk (sI (sI (sI (sI (sI (sI (sI (sI (sI M (B + 44) 0 (nI (T (12 + 7 * l)))) (B + 44) 1 (nI (T (12 + 7 * l + 1)))) (B + 44) 2 (nI (T (12 + 7 * l + 2)))) (B + 44) 3 (nI (T (12 + 7 * l + 4)))) (B + 44) 4 (nI (T (12 + 7 * l + 5)))) (B + 44) 5 (nI (S (1211 + l)))) (B + 44) 8 (nI (S 1206 + 1))) (B + 44) 9 (nI (T (12 + 7 * l + 3)))) (B + 44) 10 (nI (ctS T S l 0))) (B + 15 + 4) (nI (21 * l + 0)) (B + 45) (nI 0) (nI 21) from cp_ok (ns := 84) (show M.2.2.2.1 (B + 15 + 4) = 10 by simp only [hQ.2.2.2.1]) (show M.2.2.2.1 (B + 45) = 10 by simp only [hQ.1]) (show M.2.2.2.2.1 (B + 15 + 4) = 84 by simp only [hQ.2.2.2.1]) (show M.2.2.2.2.1 (B + 45) = 21 by simp only [hQ.1]) (by omega) (by omega))
  have k2 := eq_true (show cpOk (sC (sI (sI (sI (sI (sI (sI (sI (sI (sI M (B + 44) 0 (nI (T (12 + 7 * l)))) (B + 44) 1 (nI (T (12 + 7 * l + 1)))) (B + 44) 2 (nI (T (12 + 7 * l + 2)))) (B + 44) 3 (nI (T (12 + 7 * l + 4)))) (B + 44) 4 (nI (T (12 + 7 * l + 5)))) (B + 44) 5 (nI (S (1211 + l)))) (B + 44) 8 (nI (S 1206 + 1))) (B + 44) 9 (nI (T (12 + 7 * l + 3)))) (B + 44) 10 (nI (ctS T S l 0))) (B + 45) (va_cpy (M.1 (B + 15 + 4)) (M.1 (B + 45)) (21 * l + 0) 0 21)) (t + 12) (nI (10 * l + 0)) (B + 46) (nI 0) (nI 10) from cp_ok (ns := 40) (show M.2.2.2.1 (t + 12) = 10 by simp only [hQ.2.2.1]) (show M.2.2.2.1 (B + 46) = 10 by simp only [hQ.1]) (show M.2.2.2.2.1 (t + 12) = 40 by simp only [hQ.2.2.1]) (show M.2.2.2.2.1 (B + 46) = 10 by simp only [hQ.1]) (by omega) (by omega))
  refine ⟨(sC (sC (sI (sI (sI (sI (sI (sI (sI (sI (sI M (B + 44) 0 (nI (T (12 + 7 * l)))) (B + 44) 1 (nI (T (12 + 7 * l + 1)))) (B + 44) 2 (nI (T (12 + 7 * l + 2)))) (B + 44) 3 (nI (T (12 + 7 * l + 4)))) (B + 44) 4 (nI (T (12 + 7 * l + 5)))) (B + 44) 5 (nI (S (1211 + l)))) (B + 44) 8 (nI (S 1206 + 1))) (B + 44) 9 (nI (T (12 + 7 * l + 3)))) (B + 44) 10 (nI (ctS T S l 0))) (B + 45) (va_cpy (M.1 (B + 15 + 4)) (M.1 (B + 45)) (21 * l + 0) 0 21)) (B + 46) (va_cpy (M.1 (t + 12)) (M.1 (B + 46)) (10 * l + 0) 0 10)), ?_, ⟨rfl, fun a ha => ?_⟩, ⟨⟨?_, ?_, ?_, ?_, ?_, ?_, ?_, ?_, ?_⟩, fun y h1 h2 => ?_, fun r h1 h2 => ?_⟩⟩
  · simp (disch := omega) only [f_X4_open, reduceIte, ↓reduceIte, ↓ck_i, ↓nm_s, ↓bR_i, ↓bd_i, Option.isSome_some, Option.getD_some, gK, gR, gN, gIs, inb_nI, and_self, nI_clamp, fa_lit, pk_mul, nI_add, n10, n1z, n00, eq_self, not_true_eq_false, not_false_eq_true, gIf, ofnI, sI_sh, sC_sh, sI_ne, sC_ne, hQ.1, hQ.2.2.1, hQ.2.2.2.1, hQ.2.2.2.2.2.1.2.2.1 l hl, hQ.2.2.2.2.2.2.1.2.2.1 l hl, hQ.2.2.2.2.2.2.1.1, hct, p_cellOf, p_rankOf, k1, k2]
  · rw [sC_ne (by omega), sC_ne (by omega), sI_ne (by omega), sI_ne (by omega), sI_ne (by omega), sI_ne (by omega), sI_ne (by omega), sI_ne (by omega), sI_ne (by omega), sI_ne (by omega), sI_ne (by omega)]
  · rw [sC_ne (by omega), sC_ne (by omega), sI_oth (by omega), sI_oth (by omega), sI_oth (by omega), sI_oth (by omega), sI_oth (by omega), sI_oth (by omega), sI_oth (by omega), sI_oth (by omega), sI_hit]
  · rw [sC_ne (by omega), sC_ne (by omega), sI_oth (by omega), sI_oth (by omega), sI_oth (by omega), sI_oth (by omega), sI_oth (by omega), sI_oth (by omega), sI_oth (by omega), sI_hit]
  · rw [sC_ne (by omega), sC_ne (by omega), sI_oth (by omega), sI_oth (by omega), sI_oth (by omega), sI_oth (by omega), sI_oth (by omega), sI_oth (by omega), sI_hit]
  · rw [sC_ne (by omega), sC_ne (by omega), sI_oth (by omega), sI_oth (by omega), sI_oth (by omega), sI_oth (by omega), sI_oth (by omega), sI_hit]
  · rw [sC_ne (by omega), sC_ne (by omega), sI_oth (by omega), sI_oth (by omega), sI_oth (by omega), sI_oth (by omega), sI_hit]
  · rw [sC_ne (by omega), sC_ne (by omega), sI_oth (by omega), sI_oth (by omega), sI_oth (by omega), sI_hit]
  · rw [sC_ne (by omega), sC_ne (by omega), sI_oth (by omega), sI_oth (by omega), sI_hit]
  · rw [sC_ne (by omega), sC_ne (by omega), sI_oth (by omega), sI_hit]
  · rw [sC_ne (by omega), sC_ne (by omega), sI_hit]
  · rw [sC_ne (by omega), sC_hit, pk_cpy_in (by omega) (by omega), show 21 * l + 0 + (y - 0) = 21 * l + y by omega]
    exact (hQ.2.2.2.2.2.2.1.2.2.2.1 l hl y h1 h2).1
  · rw [sC_hit, pk_cpy_in (by omega) (by omega), show 10 * l + 0 + (r - 0) = 10 * l + r by omega]
    exact hQ.2.2.2.2.2.1.2.2.2 l hl r h1 h2
/-- a year's step of the reference's -/
theorem q_stay (hR : RQ B M T S c) (hl : l < T 0) (h1 : 1 ≤ y) (hy : y ≤ T (12 + 7 * l + 3)) (hi : RI T l y s f) (hp : 1 ≤ p) (hp2 : p ≤ 999) :
    ∃ N, f_X8_stay (B + 59) (nI l) (nI y) (nI s) (nI f) (nI p) M = some (nI (duR T l p y s f), N) ∧ KT B M N ∧ N.1 (B + 68) = M.1 (B + 68) ∧ N.1 (B + 59) 19 = nI (duR T l p y s f) ∧ N.1 (B + 59) 20 = nI (csR T l p y) ∧ N.1 (B + 59) 21 = nI (bgR T l p y) ∧ N.1 (B + 59) 22 = nI (fuR T l p y s f) := by
  have hW := hR.2.2.2.1
  have w := hW.2.2 l hl
  have hd := hi.du (p := p) hW hl hy
  have hcs := csR_rng (y := y) hW hl hp hp2
  have hK : ∀ b f, RQ B (sI (sI (sI M (B + 59) 21 b) (B + 59) 20 (nI (csR T l p y))) (B + 59) 22 f) T S c := fun b f => ((hR.th (j := 21)).th (j := 20)).th (j := 22)
  have step : f_X8_stay (B + 59) (nI l) (nI y) (nI s) (nI f) (nI p) M = f_X8_stay_67 (B + 59) (nI l) (nI y) (nI s) (nI f) (nI (T (12 + 7 * l + 3))) (nI (T (12 + 7 * l + 4))) (nI (csR T l p y)) (B + 59) (sI M (B + 59) 21 (nI (bgR T l p y))) := by
    by_cases h1 : T (12 + 7 * l + 1) ≤ p
    · have e1 : ¬ p < T (12 + 7 * l + 1) := by omega
      simp (disch := omega) only [f_X8_stay, reduceIte, ↓reduceIte, ↓ck_i, ↓nm_s, ↓bR_i, ↓bd_i, Option.isSome_some, Option.getD_some, gK, gR, gN, gIs, inb_nI, and_self, nI_clamp, fa_lit, pk_mul, nI_add, n10, n1z, n00, eq_self, not_true_eq_false, not_false_eq_true, sI_sh, sI_ne, sI_hit, hR.1, q_loanOf hR hl, nI_leI, nI_eq, h1, bgR, csR, e1, false_and]
    · have e1 : p < T (12 + 7 * l + 1) := by omega
      by_cases h2 : y = T (12 + 7 * l + 3)
      · simp (disch := omega) only [f_X8_stay, reduceIte, ↓reduceIte, ↓ck_i, ↓nm_s, ↓bR_i, ↓bd_i, Option.isSome_some, Option.getD_some, gK, gR, gN, gIs, inb_nI, and_self, nI_clamp, fa_lit, pk_mul, nI_add, n10, n1z, n00, eq_self, not_true_eq_false, not_false_eq_true, sI_sh, sI_ne, sI_hit, hR.1, q_loanOf hR hl, nI_leI, nI_eq, h1, bgR, csR, e1, h2, ne_eq, true_and, false_and]
      · by_cases h3 : T (12 + 7 * l + 4) = 2
        · simp (disch := omega) only [f_X8_stay, reduceIte, ↓reduceIte, ↓ck_i, ↓nm_s, ↓bR_i, ↓bd_i, Option.isSome_some, Option.getD_some, gK, gR, gN, gIs, inb_nI, and_self, nI_clamp, fa_lit, pk_mul, nI_add, n10, n1z, n00, eq_self, not_true_eq_false, not_false_eq_true, sI_sh, sI_ne, sI_hit, hR.1, q_loanOf hR hl, nI_leI, nI_eq, h1, bgR, csR, e1, h2, h3, ne_eq, true_and, false_and]
        · simp (disch := omega) only [f_X8_stay, reduceIte, ↓reduceIte, ↓ck_i, ↓nm_s, ↓bR_i, ↓bd_i, Option.isSome_some, Option.getD_some, gK, gR, gN, gIs, inb_nI, and_self, nI_clamp, fa_lit, pk_mul, nI_add, n10, n1z, n00, eq_self, not_true_eq_false, not_false_eq_true, sI_sh, sI_ne, sI_hit, hR.1, q_loanOf hR hl, nI_leI, nI_eq, h1, bgR, csR, e1, h2, h3, ne_eq, true_and, false_and]
  rw [step]
  have fin : ∀ (u v : Int32), u = nI (duR T l p y s f) → v = nI (fuR T l p y s f) → ∀ N : Mm, N.2 = M.2 → (∀ a, a ≠ B + 59 → N.1 a = M.1 a) → (∀ j, j < 19 ∨ 22 < j → N.1 (B + 59) j = M.1 (B + 59) j) → N.1 (B + 59) 19 = u → N.1 (B + 59) 20 = nI (csR T l p y) → N.1 (B + 59) 21 = nI (bgR T l p y) → N.1 (B + 59) 22 = v → KT B M N ∧ N.1 (B + 68) = M.1 (B + 68) ∧ N.1 (B + 59) 19 = nI (duR T l p y s f) ∧ N.1 (B + 59) 20 = nI (csR T l p y) ∧ N.1 (B + 59) 21 = nI (bgR T l p y) ∧ N.1 (B + 59) 22 = nI (fuR T l p y s f) := by
    intro u v hu hv N n1 n2 n3 n4 n5 n6 n7
    exact ⟨⟨n1, fun a a1 _ => n2 a a1, n3⟩, n2 _ (by omega), by rw [n4, hu], n5, n6, by rw [n7, hv]⟩
  obtain ⟨i1, i2, i3⟩ := id hi
  by_cases c1 : y = T (12 + 7 * l + 3)
  · have d1 : duR T l p y s f = s := by unfold duR; rw [if_pos c1]
    have d2 : fuR T l p y s f = f := by unfold fuR; rw [if_pos c1]
    refine ⟨sI (sI (sI (sI M (B + 59) 21 (nI (bgR T l p y))) (B + 59) 20 (nI (csR T l p y))) (B + 59) 22 (nI f)) (B + 59) 19 (nI s), ?_, fin (nI s) (nI f) (by rw [d1]) (by rw [d2]) _ rfl (fun a ha => by rw [sI_ne ha, sI_ne ha, sI_ne ha, sI_ne ha]) (fun j hj => by rw [sI_oth (by omega), sI_oth (by omega), sI_oth (by omega), sI_oth (by omega)]) sI_hit (by rw [sI_oth (by omega), sI_oth (by omega), sI_hit]) (by rw [sI_oth (by omega), sI_oth (by omega), sI_oth (by omega), sI_hit]) (by rw [sI_oth (by omega), sI_hit])⟩
    rw [d1]
    have e1 : nI y = nI (T (12 + 7 * l + 3)) := by rw [c1]
    simp (disch := omega) only [f_X8_stay_67, reduceIte, ↓reduceIte, ↓ck_i, ↓nm_s, ↓bR_i, ↓bd_i, Option.isSome_some, Option.getD_some, gK, gR, gN, gIs, inb_nI, and_self, nI_clamp, fa_lit, pk_mul, nI_add, n10, n1z, n00, eq_self, not_true_eq_false, not_false_eq_true, sI_sh, sI_hit, hR.1, e1]
  · by_cases c2 : T (12 + 7 * l + 4) = 0
    · have hg := hi.ge c2
      have he := ev_le hW hl hy
      have hm : T (12 + 7 * l) * y ≤ 60 * 20 := Nat.mul_le_mul (by omega) (by omega)
      have d1 : duR T l p y s f = T (12 + 7 * l) * y / T (12 + 7 * l + 3) - (T (12 + 7 * l) - s) := by unfold duR; rw [if_neg c1, if_pos c2]; omega
      have d2 : fuR T l p y s f = f := by unfold fuR; rw [if_neg c1, if_neg (by omega)]
      have hq := hK (nI (bgR T l p y)) (nI f)
      have b2 : ¬ T (12 + 7 * l + 3) = 0 := by omega
      refine ⟨sI (sI (sI (sI M (B + 59) 21 (nI (bgR T l p y))) (B + 59) 20 (nI (csR T l p y))) (B + 59) 22 (nI f)) (B + 59) 19 (nI (T (12 + 7 * l) * y / T (12 + 7 * l + 3) - (T (12 + 7 * l) - s))), ?_, fin (nI (T (12 + 7 * l) * y / T (12 + 7 * l + 3) - (T (12 + 7 * l) - s))) (nI f) (by rw [d1]) (by rw [d2]) _ rfl (fun a ha => by rw [sI_ne ha, sI_ne ha, sI_ne ha, sI_ne ha]) (fun j hj => by rw [sI_oth (by omega), sI_oth (by omega), sI_oth (by omega), sI_oth (by omega)]) sI_hit (by rw [sI_oth (by omega), sI_oth (by omega), sI_hit]) (by rw [sI_oth (by omega), sI_oth (by omega), sI_oth (by omega), sI_hit]) (by rw [sI_oth (by omega), sI_hit])⟩
      rw [d1]
      have l0 := q_loanOf hq hl (w := 0) (by omega)
      simp (disch := omega) only [f_X8_stay_67, reduceIte, ↓reduceIte, ↓ck_i, ↓nm_s, ↓bR_i, ↓bd_i, Option.isSome_some, Option.getD_some, gK, gR, gN, gIs, inb_nI, and_self, nI_clamp, fa_lit, pk_mul, nI_add, n10, n1z, n00, eq_self, not_true_eq_false, not_false_eq_true, sI_sh, sI_hit, hR.1, nI_eq, c1, c2, l0, Nat.add_zero, b2, pk_div, pk_sub]
    · by_cases c3 : T (12 + 7 * l + 4) = 1
      · have hx := du_cs (hW := hW) (p := p) (s := s) (f := f) c1 c3
        have hm : T (12 + 7 * l + 2) * s ≤ 99 * 60 := Nat.mul_le_mul (by omega) (by omega)
        have hq0 : (f + (T (12 + 7 * l + 5) - T (12 + 7 * l + 2) * s)) / csR T l p y ≤ f + (T (12 + 7 * l + 5) - T (12 + 7 * l + 2) * s) := Nat.div_le_self _ _
        have d1 : duR T l p y s f = min s ((f + (T (12 + 7 * l + 5) - T (12 + 7 * l + 2) * s)) / csR T l p y) := by unfold duR; rw [if_neg c1, if_neg c2, if_pos c3]
        have d2 : fuR T l p y s f = f + (T (12 + 7 * l + 5) - T (12 + 7 * l + 2) * s) - duR T l p y s f * csR T l p y := by unfold fuR; rw [if_neg c1, if_pos c3]
        have hq := hK (nI (bgR T l p y)) (nI f)
        have l5 := q_loanOf hq hl (w := 5) (by omega)
        have l2 := q_loanOf hq hl (w := 2) (by omega)
        have b2 : ¬ csR T l p y = 0 := by omega
        have e192 : ∀ g : Nat, g = f + (T (12 + 7 * l + 5) - T (12 + 7 * l + 2) * s) → f_X8_stay_161 (B + 59) (nI s) (nI (T (12 + 7 * l + 5) - T (12 + 7 * l + 2) * s)) (nI f) (B + 59) (sI (sI (sI M (B + 59) 21 (nI (bgR T l p y))) (B + 59) 20 (nI (csR T l p y))) (B + 59) 22 (nI f)) = some (nI (duR T l p y s f), sI (sI (sI (sI (sI (sI M (B + 59) 21 (nI (bgR T l p y))) (B + 59) 20 (nI (csR T l p y))) (B + 59) 22 (nI f)) (B + 59) 22 (nI g)) (B + 59) 19 (nI (duR T l p y s f))) (B + 59) 22 (nI (g - duR T l p y s f * csR T l p y))) := by
          intro g hg
          rw [← hg] at hx hq0 d1
          by_cases hle : s ≤ g / csR T l p y
          · have d3 : duR T l p y s f = s := by rw [d1, Nat.min_eq_left hle]
            rw [d3] at hx ⊢
            simp (disch := omega) only [f_X8_stay_161, f_X8_stay_192, reduceIte, ↓reduceIte, ↓ck_i, ↓nm_s, ↓bR_i, ↓bd_i, Option.isSome_some, Option.getD_some, gK, gR, gN, gIs, inb_nI, and_self, nI_clamp, fa_lit, pk_mul, nI_add, n10, n1z, n00, eq_self, not_true_eq_false, not_false_eq_true, sI_sh, sI_hit, sI_oth, hR.1, nI_eq, nI_leI, b2, pk_div, ← hg, hle, pk_sub]
          · have d3 : duR T l p y s f = g / csR T l p y := by rw [d1, Nat.min_eq_right (by omega)]
            rw [d3] at hx ⊢
            simp (disch := omega) only [f_X8_stay_161, f_X8_stay_192, reduceIte, ↓reduceIte, ↓ck_i, ↓nm_s, ↓bR_i, ↓bd_i, Option.isSome_some, Option.getD_some, gK, gR, gN, gIs, inb_nI, and_self, nI_clamp, fa_lit, pk_mul, nI_add, n10, n1z, n00, eq_self, not_true_eq_false, not_false_eq_true, sI_sh, sI_hit, sI_oth, hR.1, nI_eq, nI_leI, b2, pk_div, ← hg, hle, pk_sub]
        refine ⟨sI (sI (sI (sI (sI (sI M (B + 59) 21 (nI (bgR T l p y))) (B + 59) 20 (nI (csR T l p y))) (B + 59) 22 (nI f)) (B + 59) 22 (nI (f + (T (12 + 7 * l + 5) - T (12 + 7 * l + 2) * s)))) (B + 59) 19 (nI (duR T l p y s f))) (B + 59) 22 (nI (f + (T (12 + 7 * l + 5) - T (12 + 7 * l + 2) * s) - duR T l p y s f * csR T l p y)), ?_, fin (nI (duR T l p y s f)) (nI (f + (T (12 + 7 * l + 5) - T (12 + 7 * l + 2) * s) - duR T l p y s f * csR T l p y)) rfl (by rw [d2]) _ rfl (fun a ha => by rw [sI_ne ha, sI_ne ha, sI_ne ha, sI_ne ha, sI_ne ha, sI_ne ha]) (fun j hj => by rw [sI_oth (by omega), sI_oth (by omega), sI_oth (by omega), sI_oth (by omega), sI_oth (by omega), sI_oth (by omega)]) (by rw [sI_oth (by omega), sI_hit]) (by rw [sI_oth (by omega), sI_oth (by omega), sI_oth (by omega), sI_oth (by omega), sI_hit]) (by rw [sI_oth (by omega), sI_oth (by omega), sI_oth (by omega), sI_oth (by omega), sI_oth (by omega), sI_hit]) sI_hit⟩
        rw [← e192 _ rfl]
        by_cases hms : T (12 + 7 * l + 5) ≤ T (12 + 7 * l + 2) * s
        · have hz : T (12 + 7 * l + 5) - T (12 + 7 * l + 2) * s = 0 := by omega
          simp (disch := omega) only [f_X8_stay_67, reduceIte, ↓reduceIte, ↓ck_i, ↓nm_s, ↓bR_i, ↓bd_i, Option.isSome_some, Option.getD_some, gK, gR, gN, gIs, inb_nI, and_self, nI_clamp, fa_lit, pk_mul, nI_add, n10, n1z, n00, eq_self, not_true_eq_false, not_false_eq_true, sI_sh, sI_hit, hR.1, nI_eq, c1, c2, c3, l5, l2, sub_le0, hms, hz]
        · have hz : ¬ T (12 + 7 * l + 5) - T (12 + 7 * l + 2) * s ≤ 0 := by omega
          simp (disch := omega) only [f_X8_stay_67, reduceIte, ↓reduceIte, ↓ck_i, ↓nm_s, ↓bR_i, ↓bd_i, Option.isSome_some, Option.getD_some, gK, gR, gN, gIs, inb_nI, and_self, nI_clamp, fa_lit, pk_mul, nI_add, n10, n1z, n00, eq_self, not_true_eq_false, not_false_eq_true, sI_sh, sI_hit, hR.1, nI_eq, c1, c2, c3, l5, l2, pk_sub, nI_leI, hz]
      · have d1 : duR T l p y s f = 0 := by unfold duR; rw [if_neg c1, if_neg c2, if_neg c3]
        have d2 : fuR T l p y s f = f := by unfold fuR; rw [if_neg c1, if_neg c3]
        refine ⟨sI (sI (sI (sI M (B + 59) 21 (nI (bgR T l p y))) (B + 59) 20 (nI (csR T l p y))) (B + 59) 22 (nI f)) (B + 59) 19 (nI 0), ?_, fin (nI 0) (nI f) (by rw [d1]) (by rw [d2]) _ rfl (fun a ha => by rw [sI_ne ha, sI_ne ha, sI_ne ha, sI_ne ha]) (fun j hj => by rw [sI_oth (by omega), sI_oth (by omega), sI_oth (by omega), sI_oth (by omega)]) sI_hit (by rw [sI_oth (by omega), sI_oth (by omega), sI_hit]) (by rw [sI_oth (by omega), sI_oth (by omega), sI_oth (by omega), sI_hit]) (by rw [sI_oth (by omega), sI_hit])⟩
        rw [d1]
        simp (disch := omega) only [f_X8_stay_67, reduceIte, ↓reduceIte, ↓ck_i, ↓nm_s, ↓bR_i, ↓bd_i, Option.isSome_some, Option.getD_some, gK, gR, gN, gIs, inb_nI, and_self, nI_clamp, fa_lit, pk_mul, nI_add, n10, n1z, n00, eq_self, not_true_eq_false, not_false_eq_true, sI_sh, sI_hit, hR.1, nI_eq, c1, c2, c3]
theorem KT.rq (h : KT B M N) (hR : RQ B M T S c) : RQ B N T S c := hR.keep (by rw [h.1]) (h.2.1 _ (by omega) (by omega)) (h.2.1 _ (by omega) (by omega))
theorem q_tells_lp (hl : l < T 0) {oy op : Nat} (hoy : oy < 100) {pr : Nat → Nat} (hpr : ∀ y, 1 ≤ y → y ≤ T (12 + 7 * l + 3) → pr y = (if y = oy then op else prS T S l y) ∧ 1 ≤ pr y ∧ pr y ≤ 999) :
    ∀ (d y n s f : Nat) (M : Mm), d = T (12 + 7 * l + 3) + 1 - y → 1 ≤ y → y < 100 → d < n → RQ B M T S c → (0 < d → RI T l y s f) → ∃ N, f_X8_tells_35 n (B + 59) (nI l) (nI oy) (nI op) (nI s) (nI f) (nI y) M = some ((), N) ∧ KT B M N ∧ (∀ i, i < 6 * y → N.1 (B + 68) i = M.1 (B + 68) i) ∧ ∀ i, i < d → QA B N T l (pr (y + i)) (y + i) (stR T l pr y s f i).1 (stR T l pr y s f i).2 := by
  intro d
  induction d with
  | zero =>
    intro y n s f M hy h1 hy9 hn hR hi
    obtain ⟨n, rfl⟩ : ∃ m, n = m + 1 := ⟨n - 1, by omega⟩
    have w := hR.2.2.2.1.2.2 l hl
    have e : T (12 + 7 * l + 3) < y := by omega
    refine ⟨M, ?_, ⟨rfl, fun _ _ _ => rfl, fun _ _ => rfl⟩, fun _ _ => rfl, fun i hi => absurd hi (by omega)⟩
    have l3 := q_loanOf hR hl (w := 3) (by omega)
    simp (disch := omega) only [f_X8_tells_35, reduceIte, ↓reduceIte, ↓ck_i, ↓nm_s, ↓bR_i, ↓bd_i, Option.isSome_some, Option.getD_some, gK, gR, gN, gIs, inb_nI, and_self, nI_clamp, fa_lit, pk_mul, nI_add, n10, n1z, n00, eq_self, not_true_eq_false, not_false_eq_true, hR.1, l3, nI_ltI, e]
  | succ d ih =>
    intro y n s f M hy h1 hy9 hn hR hi
    have hi := hi (by omega)
    obtain ⟨n, rfl⟩ : ∃ m, n = m + 1 := ⟨n - 1, by omega⟩
    have w := hR.2.2.2.1.2.2 l hl
    have e : ¬ T (12 + 7 * l + 3) < y := by omega
    obtain ⟨q1, q2, q3⟩ := hpr y h1 (by omega)
    have hd := hi.du (p := pr y) hR.2.2.2.1 hl (by omega)
    obtain ⟨N, eN, n1, n2, n3, n4, n5, n6⟩ := q_stay (p := pr y) hR hl h1 (by omega) hi q2 q3
    have hRN := n1.rq hR
    have hR1 := hRN.th2 (j := 6 * y) (v := nI s)
    have lN2 := q_loanOf (M := sI N (B + 68) (6 * y) (nI s)) hR1 hl (w := 2) (by omega)
    have bg : bgR T l (pr y) y = 0 ∨ bgR T l (pr y) y = 1 := by unfold bgR; split <;> simp
    let P0 : Mm := sI (sI (sI (sI (sI (sI N (B + 68) (6 * y) (nI s)) (B + 68) (6 * y + 1) (nI (s * T (12 + 7 * l + 2)))) (B + 68) (6 * y + 2) (nI (duR T l (pr y) y s f))) (B + 68) (6 * y + 3) (nI (csR T l (pr y) y))) (B + 68) (6 * y + 4) (nI (bgR T l (pr y) y))) (B + 68) (6 * y + 5) (nI (fuR T l (pr y) y s f))
    have hRP : RQ B P0 T S c := (((((hR1.th2 (j := 6 * y + 1)).th2 (j := 6 * y + 2)).th2 (j := 6 * y + 3)).th2 (j := 6 * y + 4)).th2 (j := 6 * y + 5))
    obtain ⟨P, eP, p1, p3, p4⟩ := ih (y + 1) n (s - duR T l (pr y) y s f) (fuR T l (pr y) y s f) P0 (by omega) (by omega) (by omega) (by omega) hRP (fun _ => hi.next hR.2.2.2.1 hl h1 (by omega))
    have hP : f_X8_tells_35 (n + 1) (B + 59) (nI l) (nI oy) (nI op) (nI s) (nI f) (nI y) M = f_X8_tells_35 n (B + 59) (nI l) (nI oy) (nI op) (nI (s - duR T l (pr y) y s f)) (nI (fuR T l (pr y) y s f)) (nI (y + 1)) P0 := by
      have l3 := q_loanOf hR hl (w := 3) (by omega)
      have gK' : RfD B N.2.2 := by rw [n1.1]; exact hR.1
      have tail : f_X8_tells_71 (f_X8_tells_35 n) (B + 59) (nI l) (nI oy) (nI op) (nI s) (nI y) (nI (pr y)) (nI f) (nI s) (nI y) (nI l) (B + 59) M = f_X8_tells_35 n (B + 59) (nI l) (nI oy) (nI op) (nI (s - duR T l (pr y) y s f)) (nI (fuR T l (pr y) y s f)) (nI (y + 1)) P0 := by
        have hy21 : y < 21 := by omega
        rcases bg with bg | bg
        · rw [bg] at n5
          simp (disch := omega) only [f_X8_tells_71, f_X8_tells_157, reduceIte, ↓reduceIte, ↓ck_i, ↓nm_s, ↓bR_i, ↓bd_i, Option.isSome_some, Option.getD_some, gK, gR, gN, gIs, inb_nI, and_self, nI_clamp, fa_lit, pk_mul, nI_add, n10, n1z, n00, eq_self, not_true_eq_false, not_false_eq_true, Nat.add_zero, sI_sh, sI_ne, hR.1, gK'.a, eN, n3, n4, n5, n6, lN2, pk_sub, P0, bg]
        · rw [bg] at n5
          simp (disch := omega) only [f_X8_tells_71, f_X8_tells_157, reduceIte, ↓reduceIte, ↓ck_i, ↓nm_s, ↓bR_i, ↓bd_i, Option.isSome_some, Option.getD_some, gK, gR, gN, gIs, inb_nI, and_self, nI_clamp, fa_lit, pk_mul, nI_add, n10, n1z, n00, eq_self, not_true_eq_false, not_false_eq_true, Nat.add_zero, sI_sh, sI_ne, hR.1, gK'.a, eN, n3, n4, n5, n6, lN2, pk_sub, P0, bg]
      rw [← tail]
      by_cases hyo : y = oy
      · rw [if_pos hyo] at q1
        rw [q1]
        have e1 : nI y = nI oy := by rw [hyo]
        simp (disch := omega) only [f_X8_tells_35, reduceIte, ↓reduceIte, ↓ck_i, ↓nm_s, ↓bR_i, ↓bd_i, Option.isSome_some, Option.getD_some, gK, gR, gN, gIs, inb_nI, and_self, nI_clamp, fa_lit, pk_mul, nI_add, n10, n1z, n00, eq_self, not_true_eq_false, not_false_eq_true, hR.1, l3, nI_ltI, e, e1]
        subst hyo
        simp (disch := omega) only [nI_ltI, e, reduceIte]
      · rw [if_neg hyo] at q1
        rw [q1]
        obtain ⟨k, rfl⟩ : ∃ k, y = k + 1 := ⟨y - 1, by omega⟩
        have pf := q_priceOf hR hl (k := k) (by omega)
        simp (disch := omega) only [f_X8_tells_35, reduceIte, ↓reduceIte, ↓ck_i, ↓nm_s, ↓bR_i, ↓bd_i, Option.isSome_some, Option.getD_some, gK, gR, gN, gIs, inb_nI, and_self, nI_clamp, fa_lit, pk_mul, nI_add, n10, n1z, n00, eq_self, not_true_eq_false, not_false_eq_true, hR.1, l3, nI_ltI, nI_eq, e, hyo, pf]
    refine ⟨P, by rw [hP]; exact eP, ?_, fun i hi => ?_, fun i hi => ?_⟩
    · have k0 : KT B N P0 := ⟨rfl, fun a _ a2 => by rw [sI_ne a2, sI_ne a2, sI_ne a2, sI_ne a2, sI_ne a2, sI_ne a2], fun j _ => by rw [sI_ne (by omega), sI_ne (by omega), sI_ne (by omega), sI_ne (by omega), sI_ne (by omega), sI_ne (by omega)]⟩
      exact (n1.tr k0).tr p1
    · rw [p3 i (by omega)]
      show (sI (sI (sI (sI (sI (sI N _ _ _) _ _ _) _ _ _) _ _ _) _ _ _) _ _ _).1 (B + 68) i = _
      rw [sI_oth (by omega), sI_oth (by omega), sI_oth (by omega), sI_oth (by omega), sI_oth (by omega), sI_oth (by omega), n2]
    · rcases i with _ | i
      · show QA B P T l (pr y) y s f
        have z : ∀ i, i < 6 * y + 6 → P.1 (B + 68) i = P0.1 (B + 68) i := fun i hi => p3 i (by omega)
        refine ⟨?_, ?_, ?_, ?_, ?_, ?_⟩
        · rw [z _ (by omega)]
          show (sI (sI (sI (sI (sI (sI N _ _ _) _ _ _) _ _ _) _ _ _) _ _ _) _ _ _).1 (B + 68) _ = _
          rw [sI_oth (by omega), sI_oth (by omega), sI_oth (by omega), sI_oth (by omega), sI_oth (by omega), sI_hit]
        · rw [z _ (by omega)]
          show (sI (sI (sI (sI (sI (sI N _ _ _) _ _ _) _ _ _) _ _ _) _ _ _) _ _ _).1 (B + 68) _ = _
          rw [sI_oth (by omega), sI_oth (by omega), sI_oth (by omega), sI_oth (by omega), sI_hit]
        · rw [z _ (by omega)]
          show (sI (sI (sI (sI (sI (sI N _ _ _) _ _ _) _ _ _) _ _ _) _ _ _) _ _ _).1 (B + 68) _ = _
          rw [sI_oth (by omega), sI_oth (by omega), sI_oth (by omega), sI_hit]
        · rw [z _ (by omega)]
          show (sI (sI (sI (sI (sI (sI N _ _ _) _ _ _) _ _ _) _ _ _) _ _ _) _ _ _).1 (B + 68) _ = _
          rw [sI_oth (by omega), sI_oth (by omega), sI_hit]
        · rw [z _ (by omega)]
          show (sI (sI (sI (sI (sI (sI N _ _ _) _ _ _) _ _ _) _ _ _) _ _ _) _ _ _).1 (B + 68) _ = _
          rw [sI_oth (by omega), sI_hit]
        · rw [z _ (by omega)]
          show (sI (sI (sI (sI (sI (sI N _ _ _) _ _ _) _ _ _) _ _ _) _ _ _) _ _ _).1 (B + 68) _ = _
          rw [sI_hit]
      · have := p4 i (by omega)
        rw [show y + 1 + i = y + (i + 1) by omega] at this
        exact this
end ROWR
