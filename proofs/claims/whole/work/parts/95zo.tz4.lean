/-! text: how the class begins to read -/
def zrN : Td := fun _ => 0
def ReadC (B d n : Nat) (tp : Td) (M : Mm) (o : Ou) (v : Int32) (N : Mm) : Prop := ∃ M9, QC B d n tp M9 o v N ∧ M9.2 = M.2 ∧ (∀ b, b ≠ B + 28 → (b < d ∨ d + 14 ≤ b) → M9.1 b = M.1 b) ∧ M9.1 (B + 28) 1 = nI 0
section TZ4
variable {B d n fed f l w g v : Nat} {tp T S : Td} {M0 M N P0 P Q R : Mm} {u : Int32}
theorem dw_0 : DW zrN zrN 0 0 0 0 := by
  refine ⟨rfl, rfl, by omega, by omega, fun k hk => by omega, fun k j hj hk => by omega, fun k hk => by omega, fun k hk => by omega, fun k hk => Nat.zero_le _, fun k hk => Nat.zero_le _, fun k hk => Nat.zero_le _, fun k hk => by omega, fun k hk => rfl⟩
theorem c_clear (hA : TmA d M.2.2) : ∃ N, f_X6_clear d M = some ((), N) ∧ N.2 = M.2 ∧ (∀ b, b < d ∨ d + 14 ≤ b → N.1 b = M.1 b) ∧ CD N.1 d zrN zrN 0 0 0 0 ∧ N.1 d 2 = nI 0 ∧ N.1 d 3 = nI 0 ∧ N.1 d 4 = nI 0 := by
  have k6 : ∀ N : Mm, N.2 = M.2 → gK N d = 6 := fun N q => by
    show N.2.2.2.1 d = 6
    rw [q]; exact hA.1
  have r15 : ∀ N : Mm, N.2 = M.2 → gR N d 15 = some (d + 11) := fun N q => by
    show N.2.2.1 d 15 = _
    rw [q]; simp only [hA]
  have r16 : ∀ N : Mm, N.2 = M.2 → gR N d 16 = some (d + 12) := fun N q => by
    show N.2.2.1 d 16 = _
    rw [q]; simp only [hA]
  have r17 : ∀ N : Mm, N.2 = M.2 → gR N d 17 = some (d + 13) := fun N q => by
    show N.2.2.1 d 17 = _
    rw [q]; simp only [hA]
  have a11 : ∀ N : Mm, N.2 = M.2 → gK N (d + 11) = 10 ∧ gN N (d + 11) = 240 := fun N q => by
    constructor
    · show N.2.2.2.1 (d + 11) = _
      rw [q]; simp only [hA]
    · show N.2.2.2.2.1 (d + 11) = _
      rw [q]; simp only [hA]
  have a12 : ∀ N : Mm, N.2 = M.2 → gK N (d + 12) = 10 ∧ gN N (d + 12) = 40 := fun N q => by
    constructor
    · show N.2.2.2.1 (d + 12) = _
      rw [q]; simp only [hA]
    · show N.2.2.2.2.1 (d + 12) = _
      rw [q]; simp only [hA]
  have a13 : ∀ N : Mm, N.2 = M.2 → gK N (d + 13) = 10 ∧ gN N (d + 13) = 84 := fun N q => by
    constructor
    · show N.2.2.2.1 (d + 13) = _
      rw [q]; simp only [hA]
    · show N.2.2.2.2.1 (d + 13) = _
      rw [q]; simp only [hA]
  rw [f_X6_clear, ck_t (k6 M rfl), nm_s, ck_t (k6 (sI M d 0 (0 : Int32)) rfl), nm_s, ck_t (k6 (sI (sI M d 0 (0 : Int32)) d 1 (0 : Int32)) rfl), nm_s, ck_t (k6 (sI (sI (sI M d 0 (0 : Int32)) d 1 (0 : Int32)) d 2 (0 : Int32)) rfl), nm_s, ck_t (k6 (sI (sI (sI (sI M d 0 (0 : Int32)) d 1 (0 : Int32)) d 2 (0 : Int32)) d 3 (0 : Int32)) rfl), nm_s]
  generalize hM5 : sI (sI (sI (sI (sI M d 0 (0 : Int32)) d 1 (0 : Int32)) d 2 (0 : Int32)) d 3 (0 : Int32)) d 4 (0 : Int32) = M5
  have m5 : M5.2 = M.2 := by rw [← hM5]; rfl
  have o5 : ∀ b, b ≠ d → M5.1 b = M.1 b := fun b hb => by rw [← hM5, sI_ne hb, sI_ne hb, sI_ne hb, sI_ne hb, sI_ne hb]
  have c0 : M5.1 d 0 = nI 0 := by rw [← hM5, sI_oth (by omega), sI_oth (by omega), sI_oth (by omega), sI_oth (by omega), sI_hit]; rfl
  have c1 : M5.1 d 1 = nI 0 := by rw [← hM5, sI_oth (by omega), sI_oth (by omega), sI_oth (by omega), sI_hit]; rfl
  have c2 : M5.1 d 2 = nI 0 := by rw [← hM5, sI_oth (by omega), sI_oth (by omega), sI_hit]; rfl
  have c3 : M5.1 d 3 = nI 0 := by rw [← hM5, sI_oth (by omega), sI_hit]; rfl
  have c4 : M5.1 d 4 = nI 0 := by rw [← hM5, sI_hit]; rfl
  clear hM5
  obtain ⟨M7, x1, x2, x3, x4⟩ := p_fill (n := 240) (v := (-1 : Int32)) (by omega) (a11 M5 m5).1 (a11 M5 m5).2
  have m7 := x2.trans m5
  obtain ⟨M9, y1, y2, y3, y4⟩ := p_fill (n := 40) (v := (0 : Int32)) (by omega) (a12 M7 m7).1 (a12 M7 m7).2
  have m9 := y2.trans m7
  obtain ⟨Ma, z1, z2, z3, z4⟩ := p_fill (n := 84) (v := (0 : Int32)) (by omega) (a13 M9 m9).1 (a13 M9 m9).2
  have ma := z2.trans m9
  have od : Ma.1 d = M5.1 d := by rw [z3 d (by omega), y3 d (by omega), x3 d (by omega)]
  refine ⟨Ma, ?_, ma, fun b hb => by rw [z3 b (by omega), y3 b (by omega), x3 b (by omega), o5 b (by omega)], ?_, by rw [od]; exact c2, by rw [od]; exact c3, by rw [od]; exact c4⟩
  · rw [ck_t (k6 M5 m5), r15 M5 m5, bR_s, x1, bd_s, ck_t (k6 M7 m7), r16 M7 m7, bR_s, y1, bd_s, ck_t (k6 M9 m9), r17 M9 m9, bR_s, z1, bd_s]
  · refine ⟨by rw [od]; exact c0, by rw [od]; exact c1, fun k hk => by omega, fun k j hj hk => by omega, fun k hk => by omega, fun k hk => by omega, fun k hk => ?_, fun k hk => ?_, fun k hk => ?_⟩
    · rw [z3 _ (by omega), y3 _ (by omega), x4 k hk]; rfl
    · rw [z3 _ (by omega), y4 k hk]; rfl
    · rw [z4 k hk]; rfl
theorem c_read (hC : CmA B M.2.2) (hr : M.2.2.1 (B + 28) 3 = some d) (hA : TmA d M.2.2) (hd : d + 14 ≤ B + 28 ∨ B + 30 ≤ d) (hfed : M.1 (B + 28) 1 = nI fed) (h7 : fed ≤ 700) (hn : n ≤ fed) (htp : ∀ k, k < fed → M.1 (B + 29) k = nI (tp k) ∧ tp k < 256) : Ok (f_X3_read (B + 28) (nI n) M) (ReadC B d n tp M (pLoop n tp (n + 1) (skB tp (n - 0) 0) zrN zrN 0 0 0 0 0 0)) := by
  have k3 : ∀ N : Mm, N.2 = M.2 → gK N (B + 28) = 3 := fun N q => by
    show N.2.2.2.1 (B + 28) = 3
    rw [q]; simp only [hC]
  have k6 : gK M d = 6 := hA.1
  obtain ⟨M2, x1, x2, x3, x4, x5, x6, x7⟩ := c_clear hA
  have f2 : gI M2 (B + 28) 1 = nI fed := by
    show M2.1 (B + 28) 1 = _
    rw [x3 _ (by omega)]; exact hfed
  rw [f_X3_read, ck_t (k3 M rfl), show gR M (B + 28) 3 = some d from hr, bR_s, ck_t k6, x1, bd_s, ck_t (k3 M2 x2), f2, j_min (by omega) (by omega), bd_s, ck_t (k3 M2 x2), nm_s, show min n fed = n by omega, ck_t (k3 (sI M2 (B + 28) 2 (nI n)) x2), nm_s, ck_t (k3 (sI (sI M2 (B + 28) 2 (nI n)) (B + 28) 1 (0 : Int32)) x2), nm_s, ck_t (k3 (sI (sI (sI M2 (B + 28) 2 (nI n)) (B + 28) 1 (0 : Int32)) (B + 28) 6 (0 : Int32)) x2), nm_s]
  generalize hM8 : sI (sI (sI (sI M2 (B + 28) 2 (nI n)) (B + 28) 1 (0 : Int32)) (B + 28) 6 (0 : Int32)) (B + 28) 8 (0 : Int32) = M8
  have m8 : M8.2 = M.2 := by rw [← hM8]; exact x2
  have o8 : ∀ b, b ≠ B + 28 → M8.1 b = M2.1 b := fun b hb => by rw [← hM8, sI_ne hb, sI_ne hb, sI_ne hb, sI_ne hb]
  have s1 : M8.1 (B + 28) 1 = nI 0 := by rw [← hM8, sI_oth (by omega), sI_oth (by omega), sI_hit]; rfl
  have s2 : M8.1 (B + 28) 2 = nI n := by rw [← hM8, sI_oth (by omega), sI_oth (by omega), sI_oth (by omega), sI_hit]
  have s6 : M8.1 (B + 28) 6 = nI 0 := by rw [← hM8, sI_oth (by omega), sI_hit]; rfl
  clear hM8
  have g8 : GC B M8 n tp := ⟨by rw [m8]; exact hC, s2, by omega, fun k hk => by rw [o8 _ (by omega), x3 _ (by omega)]; exact htp k (by omega)⟩
  obtain ⟨N, q1, q2, q3⟩ := c_adv g8 s6 (Nat.zero_le n)
  have le := skB_le (tp := tp) (d := n - 0) (k := 0)
  have mN : N.2 = M.2 := q2.1.trans m8
  have hN : LnC B d n tp (skB tp (n - 0) 0) zrN zrN 0 0 0 0 0 N := by
    refine ⟨⟨⟨by rw [mN]; exact hC, by rw [q2.2.2 2 (by omega)]; exact s2, by omega, fun k hk => by rw [q2.2.1 _ (by omega)]; exact g8.2.2.2 k hk⟩, q3, ⟨Nat.le_refl _, by omega, hd⟩, by rw [mN]; exact ⟨hr, hA⟩, x4.of (fun b b1 b2 => by rw [q2.2.1 b (by omega), o8 b (by omega)]), dw_0, Kc.rf⟩, ?_, ?_, ?_, by omega, by omega, by omega⟩
    · rw [q2.2.1 d (by omega), o8 d (by omega)]; exact x5
    · rw [q2.2.1 d (by omega), o8 d (by omega)]; exact x6
    · rw [q2.2.1 d (by omega), o8 d (by omega)]; exact x7
  rw [ck_t (k3 M8 m8), q1, bd_s]
  obtain ⟨v, R, r1, r2⟩ := c_loop (M0 := N) (n + 1) (skB tp (n - 0) 0) zrN zrN 0 0 0 0 0 0 FU N hN KcL.rf (by omega) (Nat.zero_le _) (by unfold FU; omega)
  refine ⟨v, R, r1, N, r2, mN, fun b b1 b2 => ?_, ?_⟩
  · rw [q2.2.1 b b1, o8 b b1, x3 b b2]
  · rw [q2.2.2 1 (by omega)]; exact s1
end TZ4
