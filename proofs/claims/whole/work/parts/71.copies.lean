section COPIES
variable {s d o1 o2 : Nat} {M : Mm}
def cpM (M : Mm) (s d o1 o2 i : Nat) : Mm := sC M d (fb_put (M.1 d) (fun k => M.1 s (o1 + k)) o2 i)
theorem cpM_0 : cpM M s d o1 o2 0 = M := by
  unfold cpM
  rw [fb_put_0]
  obtain ⟨I, R⟩ := M
  show ((fun b i => if b = d then I d i else I b i), R) = (I, R)
  congr 1
  funext b i
  by_cases h : b = d
  · rw [if_pos h, h]
  · rw [if_neg h]
theorem cpM_s (i : Nat) : sI (cpM M s d o1 o2 i) d (o2 + i) (M.1 s (o1 + i)) = cpM M s d o1 o2 (i + 1) := by
  show ((fun b j => if b = d ∧ j = o2 + i then M.1 s (o1 + i) else if b = d then fb_put (M.1 d) (fun k => M.1 s (o1 + k)) o2 i j else M.1 b j), M.2) = ((fun b j => if b = d then fb_put (M.1 d) (fun k => M.1 s (o1 + k)) o2 (i + 1) j else M.1 b j), M.2)
  congr 1
  funext b j
  by_cases h : b = d
  · rw [if_pos h, if_pos h, ← fb_put_succ]
    by_cases hj : j = o2 + i
    · rw [if_pos ⟨h, hj⟩, hj, pk_us]
    · rw [if_neg (fun q => hj q.2), pk_un hj]
  · rw [if_neg (fun q => h q.1), if_neg h, if_neg h]
theorem cpM_o {i c : Nat} (h : c ≠ d) : (cpM M s d o1 o2 i).1 c = M.1 c := by
  funext j
  show (if c = d then _ else _) = _
  rw [if_neg h]
theorem q_copies_lp {ns nd : Nat} (hs : M.2.2.2.1 s = 10) (hd : M.2.2.2.1 d = 10) (hns : M.2.2.2.2.1 s = ns) (hnd : M.2.2.2.2.1 d = nd) (h1 : o1 + 1407 ≤ ns) (h2 : o2 + 1407 ≤ nd) (h3 : ns < 100000) (h4 : nd < 100000) (hsd : s ≠ d) :
    ∀ (e i n : Nat), i + e = 1407 → e < n → f_X8_copies_3 n s (nI o1) d (nI o2) (nI i) (cpM M s d o1 o2 i) = some ((), cpM M s d o1 o2 1407) := by
  intro e
  induction e with
  | zero =>
    intro i n hi hn
    obtain ⟨n, rfl⟩ : ∃ m, n = m + 1 := ⟨n - 1, by omega⟩
    have hi : i = 1407 := by omega
    subst hi
    simp (disch := omega) only [f_X8_copies_3, reduceIte, fa_lit, nI_leI, nI_ltI, Nat.le_refl, Nat.lt_irrefl]
  | succ e ih =>
    intro i n hi hn
    obtain ⟨n, rfl⟩ : ∃ m, n = m + 1 := ⟨n - 1, by omega⟩
    have ih := ih (i + 1) n (by omega) (by omega)
    have a1 : ¬ 1407 ≤ i := by omega
    have k1 : (cpM M s d o1 o2 i).2.2.2.1 s = 10 := hs
    have k2 : (cpM M s d o1 o2 i).2.2.2.1 d = 10 := hd
    have m1 : (cpM M s d o1 o2 i).2.2.2.2.1 s = ns := hns
    have m2 : (cpM M s d o1 o2 i).2.2.2.2.1 d = nd := hnd
    have v : (cpM M s d o1 o2 i).1 s (o1 + i) = M.1 s (o1 + i) := by rw [cpM_o hsd]
    rw [← cpM_s] at ih
    simp (disch := omega) only [f_X8_copies_3, reduceIte, ↓reduceIte, gK, gR, gN, gIs, bR_s, bd_s, nm_s, ck, inb_nI, and_self, nI_clamp, fa_lit, pk_mul, nI_add, n10, n1z, n00, eq_self, not_true_eq_false, not_false_eq_true, nI_leI, nI_ltI, a1, k1, k2, m1, m2, v]
    exact ih
theorem q_copies {ns nd : Nat} (hs : M.2.2.2.1 s = 10) (hd : M.2.2.2.1 d = 10) (hns : M.2.2.2.2.1 s = ns) (hnd : M.2.2.2.2.1 d = nd) (h1 : o1 + 1407 ≤ ns) (h2 : o2 + 1407 ≤ nd) (h3 : ns < 100000) (h4 : nd < 100000) (hsd : s ≠ d) : f_X8_copies s (nI o1) d (nI o2) M = some ((), cpM M s d o1 o2 1407) := by
  have h := q_copies_lp hs hd hns hnd h1 h2 h3 h4 hsd 1407 0 FU (by omega) (by unfold FU; omega)
  rw [cpM_0] at h
  exact h
theorem cpM_in {k : Nat} (h : k < 1407) : (cpM M s d o1 o2 1407).1 d (o2 + k) = M.1 s (o1 + k) := by
  show (if d = d then fb_put _ _ o2 1407 (o2 + k) else _) = _
  rw [if_pos rfl, fb_put_in (by omega) (by omega)]
  show M.1 s (o1 + (o2 + k - o2)) = _
  rw [show o1 + (o2 + k - o2) = o1 + k by omega]
theorem cpM_out {k : Nat} (h : k < o2 ∨ o2 + 1407 ≤ k) : (cpM M s d o1 o2 1407).1 d k = M.1 d k := by
  show (if d = d then fb_put _ _ o2 1407 k else _) = _
  rw [if_pos rfl, fb_put_out h]
end COPIES
