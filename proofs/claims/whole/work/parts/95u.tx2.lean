/-! text: the reference's next token -/
/-- the reference reads n bytes of tp -/
def GT (B : Nat) (P : Mm) (n : Nat) (tp : Nat → Nat) : Prop := RfA B P.2.2 ∧ P.1 (B + 59) 3 = nI n ∧ n ≤ 700 ∧ ∀ k, k < n → P.1 (B + 60) k &&& 255 = nI (tp k) ∧ tp k < 256
section TX2
variable {B n p : Nat} {tp : Nat → Nat} {P Q : Mm}
theorem sI_self {M : Mm} {a j : Nat} : sI M a j (M.1 a j) = M := by
  refine Prod.ext (funext fun b => funext fun i => ?_) rfl
  show (if b = a ∧ i = j then M.1 a j else M.1 b i) = M.1 b i
  split
  · rename_i q; rw [q.1, q.2]
  · rfl
theorem sI_sI {M : Mm} {a j : Nat} {v w : Int32} : sI (sI M a j v) a j w = sI M a j w := by
  refine Prod.ext (funext fun b => funext fun i => ?_) rfl
  show (if b = a ∧ i = j then w else (if b = a ∧ i = j then v else M.1 b i)) = (if b = a ∧ i = j then w else M.1 b i)
  split <;> rfl
theorem GT.sI {j : Nat} {v : Int32} (h : GT B P n tp) (hj : j ≠ 3) : GT B (sI P (B + 59) j v) n tp := by
  refine ⟨h.1, ?_, h.2.2.1, fun k hk => ?_⟩
  · rw [sI_oth (by omega)]; exact h.2.1
  · rw [sI_ne (by omega)]; exact h.2.2.2 k hk
theorem g_byte (h : GT B P n tp) {k : Nat} (hk : k ≤ 1000) : f_X8_byteAt (B + 59) (nI k) P = some (if k < n then nI (tp k) else -nI 1, P) := by
  have hD : RfD B P.2.2 := h.1
  have s3 := h.2.1
  have n7 := h.2.2.1
  by_cases e : k < n
  · have e2 : ¬ n ≤ k := by omega
    have b := (h.2.2.2 k e).1
    rw [if_pos e]
    simp (disch := omega) only [f_X8_byteAt, reduceIte, ↓reduceIte, ↓ck_i, ↓nm_s, ↓bR_i, ↓bd_i, Option.isSome_some, Option.getD_some, gK, gR, gN, gIs, inb_nI, and_self, nI_clamp, fa_lit, pk_mul, nI_add, n10, n1z, n00, eq_self, not_true_eq_false, not_false_eq_true, hD.a, s3, nI_leI, e2]
    rw [← b]
    rfl
  · have e2 : n ≤ k := by omega
    rw [if_neg e]
    simp (disch := omega) only [f_X8_byteAt, reduceIte, ↓reduceIte, ↓ck_i, ↓nm_s, ↓bR_i, ↓bd_i, Option.isSome_some, Option.getD_some, gK, gR, gN, gIs, inb_nI, and_self, nI_clamp, fa_lit, pk_mul, nI_add, n10, n1z, n00, eq_self, not_true_eq_false, not_false_eq_true, hD.a, s3, nI_leI, e2]
/-- where a blank stands, the reference goes on behind it -/
theorem g_blank {m : Nat} (h : GT B P n tp) (h5 : P.1 (B + 59) 5 = nI p) (hp : p < n) (hb : tp p = 32 ∨ tp p = 10) : f_X8_go_0 (m + 1) (B + 59) P = f_X8_go_0 m (B + 59) (sI P (B + 59) 5 (nI (p + 1))) := by
  have hD : RfD B P.2.2 := h.1
  have n7 := h.2.2.1
  have b := g_byte h (k := p) (by omega)
  rw [if_pos hp] at b
  by_cases e : tp p = 32
  · rw [e] at b
    have q : (nI 32 = nI 32) = True := by decide
    simp (disch := omega) only [f_X8_go_0, reduceIte, ↓reduceIte, ↓ck_i, ↓nm_s, ↓bR_i, ↓bd_i, Option.isSome_some, Option.getD_some, gK, gR, gN, gIs, inb_nI, and_self, nI_clamp, fa_lit, pk_mul, nI_add, n10, n1z, n00, eq_self, not_true_eq_false, not_false_eq_true, hD.a, h5, b, q]
  · have e2 : tp p = 10 := by omega
    rw [e2] at b
    have q : (nI 10 = nI 32) = False := by decide
    have q2 : (nI 10 = nI 10) = True := by decide
    simp (disch := omega) only [f_X8_go_0, reduceIte, ↓reduceIte, ↓ck_i, ↓nm_s, ↓bR_i, ↓bd_i, Option.isSome_some, Option.getD_some, gK, gR, gN, gIs, inb_nI, and_self, nI_clamp, fa_lit, pk_mul, nI_add, n10, n1z, n00, eq_self, not_true_eq_false, not_false_eq_true, hD.a, h5, b, q, q2]
theorem g_skip : ∀ (d p m : Nat) (P : Mm), GT B P n tp → P.1 (B + 59) 5 = nI p → p + d = n → d < m → ∃ m2, d - (skB tp d p - p) < m2 ∧ f_X8_go_0 m (B + 59) P = f_X8_go_0 m2 (B + 59) (sI P (B + 59) 5 (nI (skB tp d p))) := by
  intro d
  induction d with
  | zero =>
    intro p m P h h5 hd hm
    refine ⟨m, by omega, ?_⟩
    show _ = f_X8_go_0 m (B + 59) (sI P (B + 59) 5 (nI p))
    rw [← h5, sI_self]
  | succ d ih =>
    intro p m P h h5 hd hm
    obtain ⟨m, rfl⟩ : ∃ q, m = q + 1 := ⟨m - 1, by omega⟩
    by_cases e : tp p = 32 ∨ tp p = 10
    · obtain ⟨m2, a1, a2⟩ := ih (p + 1) m (sI P (B + 59) 5 (nI (p + 1))) (h.sI (by omega)) sI_hit (by omega) (by omega)
      have es : skB tp (d + 1) p = skB tp d (p + 1) := if_pos e
      have le := skB_le (tp := tp) (d := d) (k := p + 1)
      refine ⟨m2, by rw [es]; omega, ?_⟩
      rw [g_blank h h5 (by omega) e, a2, es, sI_sI]
    · have es : skB tp (d + 1) p = p := if_neg e
      refine ⟨m + 1, by omega, ?_⟩
      rw [es, ← h5, sI_self]
end TX2
