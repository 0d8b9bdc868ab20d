def RD (g : Nat) (N : Mm) : Prop := gK N g = 3 ∧ gR N g 0 = some (g + 1) ∧ gK N (g + 1) = 10 ∧ gN N (g + 1) = 700 ∧ gR N g 3 = some (g + 2) ∧ BF (g + 2) 6 sl6 kd6 ln6 13 N
theorem RD.keep {B g a : Nat} {M N : Mm} (h : RD a M) (hs : Sm B g M N) (hg : a + 16 ≤ g) (hB : B < a) : RD a N := by
  have a0 := hs.1 a (by omega) (by omega)
  have a1 := hs.1 (a + 1) (by omega) (by omega)
  obtain ⟨h1, h2, h3, h4, h5, h6⟩ := h
  refine ⟨?_, ?_, ?_, ?_, ?_, h6.keep hs (by omega) (by omega) (by omega)⟩
  · show N.2.2.2.1 a = _
    rw [a0.2.2.1]; exact h1
  · show N.2.2.1 a 0 = _
    rw [a0.2.1]; exact h2
  · show N.2.2.2.1 (a + 1) = _
    rw [a1.2.2.1]; exact h3
  · show N.2.2.2.2.1 (a + 1) = _
    rw [a1.2.2.2]; exact h4
  · show N.2.2.1 a 3 = _
    rw [a0.2.1]; exact h5
theorem rd_step {B g : Nat} {M : Mm} (hT : gT M = g) (hB : B < g) (hk : gK M B = 7) :
    ∃ N, (∀ {β : Type} (cont : Mm → Option β), (nm (gT M) fun q => nm (sN M 3 9) fun M2 => bd (f_X3_init q M2) fun _ M3 => ck (gK M3 B = 7) (nm (sR M3 B 7 (some q)) fun M4 => cont M4)) = cont N) ∧ Sm B g M N ∧ gR N B 7 = some g ∧ (∀ q, q ≠ 7 → gR N B q = gR M B q) ∧ N.2.1 B = M.2.1 B ∧ gT N = g + 16 ∧ RD g N := by
  have e0 : gT (sN M 3 9) = g + 1 := by rw [gT_sN, hT]
  have e1 : gK (sN M 3 9) g = 3 := by rw [gK_sN, if_pos hT.symm]
  obtain ⟨N, eN, c1, c2, c3, c4, c5, c6, c7⟩ := i_X3 e0 e1
  have old : ∀ b, b < g → N.2.1 b = M.2.1 b ∧ N.2.2.1 b = M.2.2.1 b ∧ N.2.2.2.1 b = M.2.2.2.1 b ∧ N.2.2.2.2.1 b = M.2.2.2.2.1 b := fun b hb => by
    have a1 := c1.1 b (by omega) (by omega)
    have a2 := (sN_old (M := M) (kd := 3) (n := 9) (b := b) (by omega)).2
    exact ⟨a1.1.trans a2.1, a1.2.1.trans a2.2.1, a1.2.2.1.trans a2.2.2.1, a1.2.2.2.trans a2.2.2.2⟩
  have hkN : gK N B = 7 := by
    show N.2.2.2.1 B = 7
    rw [(old B hB).2.2.1]; exact hk
  have rN : ∀ b, b ≠ B → (sR N B 7 (some g)).2.2.1 b = N.2.2.1 b := fun b hn => by
    funext q
    show (if b = B ∧ q = 7 then _ else _) = _
    rw [if_neg (fun h => hn h.1)]
  have hs2 : Sm B (g + 16) N (sR N B 7 (some g)) := ⟨fun b _ hn => ⟨rfl, rN b hn, rfl, rfl⟩, rfl, fun z => z⟩
  have hrd : RD g N := ⟨c1.2.1.trans e1, c3, c4, c5, c6, c7⟩
  refine ⟨sR N B 7 (some g), fun cont => ?_, ⟨fun b hb hn => ?_, ?_, fun z => ?_⟩, ?_, fun q hq => ?_, ?_, c2, hrd.keep hs2 (by omega) hB⟩
  · rw [nm_s, nm_s, hT, eN, bd_s, ck_t hkN, nm_s]
  · have := old b hb
    refine ⟨this.1, ?_, this.2.2⟩
    rw [rN b hn]; exact this.2.1
  · show gK N B = gK M B
    rw [hkN, hk]
  · exact c1.2.2 (fun b q => by show (if b = gT M then 0 else M.1 b q) = 0; split; rfl; exact z b q)
  · show (if B = B ∧ 7 = 7 then _ else _) = _
    rw [if_pos ⟨rfl, rfl⟩]
  · show (if B = B ∧ q = 7 then _ else N.2.2.1 B q) = M.2.2.1 B q
    rw [if_neg (fun h => hq h.2), (old B hB).2.1]
  · exact (old B hB).1
theorem ar_none {B g j kd len : Nat} {M : Mm} (hT : gT M = g) (hB : B < g) (q : Nat) : gR (nw M B j kd len) g q = none := by
  show (if g = B ∧ q = j then _ else if g = gT M then none else _) = none
  rw [if_neg (by omega), if_pos hT.symm]
set_option maxHeartbeats 4000000 in
theorem i_X7 {B : Nat} {M0 : Mm} (hT : gT M0 = B + 1) (hK : gK M0 B = 7) : ∃ N, f_X7_init B M0 = some ((), N) ∧ gT N = B + 59 ∧ gK N B = 7 ∧ (Zr M0 → Zr N) ∧ N.2.1 B 6 = 1 ∧ BF (B + 1) 6 sl6 kd6 ln6 13 N ∧ BF (B + 15) 5 sl5 kd5 ln5 9 N ∧ RD (B + 28) N ∧ BF (B + 44) 4 sl4 kd4 ln4 8 N ∧ BF (B + 53) 1 sl1 kd1 ln1 1 N ∧ BF (B + 55) 0 sl0 kd0 ln0 0 N ∧ BF (B + 56) 2 sl2 kd2 ln2 2 N ∧ (gK N (B + 25) = 12 ∧ gN N (B + 25) = 12 ∧ ∀ q, gR N (B + 25) q = none) ∧ (gK N (B + 26) = 12 ∧ gN N (B + 26) = 2 ∧ ∀ q, gR N (B + 26) q = none) ∧ (gK N (B + 27) = 11 ∧ gN N (B + 27) = 2) ∧ gR N B 0 = some (B + 1) ∧ gR N B 1 = some (B + 15) ∧ gR N B 2 = some (B + 25) ∧ gR N B 4 = some (B + 26) ∧ gR N B 5 = some (B + 27) ∧ gR N B 7 = some (B + 28) ∧ gR N B 8 = some (B + 44) ∧ gR N B 9 = some (B + 53) ∧ gR N B 10 = some (B + 55) ∧ gR N B 11 = some (B + 56) := by
  unfold f_X7_init
  obtain ⟨A0, e0, s0, r0, o0, l0, t0, b0⟩ := ob_step (B := B) (g := B + 1) (k := 6) (n := 18) (j := 0) (f := f_X6_init) hT (by omega) hK (fun M0 h1 h2 => i_X6 h1 h2)
  rw [e0]
  have k0 : gK A0 B = 7 := s0.2.1.trans hK
  obtain ⟨A1, e1, s1, r1, o1, l1, t1, b1⟩ := ob_step (B := B) (g := B + 15) (k := 5) (n := 10) (j := 1) (f := f_X5_init) t0 (by omega) k0 (fun M0 h1 h2 => i_X5 h1 h2)
  rw [e1]
  have k1 : gK A1 B = 7 := s1.2.1.trans k0
  obtain ⟨s2, r2, o2, l2, t2, b2⟩ := ar_step (B := B) (g := B + 25) (j := 2) (kd := 12) (len := 12) t1 (by omega)
  have u2 := ar_none (B := B) (g := B + 25) (j := 2) (kd := 12) (len := 12) t1 (by omega)
  rw [nw_run (by omega) k1]
  have k2 : gK (nw A1 B 2 12 12) B = 7 := s2.2.1.trans k1
  generalize nw A1 B 2 12 12 = A2 at s2 r2 o2 l2 t2 b2 u2 k2 ⊢
  rw [ck_t k2, nm_s]
  have s3 : Sm B (B + 26) A2 (sI A2 B 3 0) := Sm.int
  have o3 : ∀ q, q ≠ 99 → gR (sI A2 B 3 0) B q = gR A2 B q := fun _ _ => rfl
  have l3 : (sI A2 B 3 0).2.1 B = A2.2.1 B := rfl
  have t3 : gT (sI A2 B 3 0) = B + 26 := t2
  have k3 : gK (sI A2 B 3 0) B = 7 := k2
  generalize sI A2 B 3 0 = A3 at s3 o3 l3 t3 k3 ⊢
  obtain ⟨s4, r4, o4, l4, t4, b4⟩ := ar_step (B := B) (g := B + 26) (j := 4) (kd := 12) (len := 2) t3 (by omega)
  have u4 := ar_none (B := B) (g := B + 26) (j := 4) (kd := 12) (len := 2) t3 (by omega)
  rw [nw_run (by omega) k3]
  have k4 : gK (nw A3 B 4 12 2) B = 7 := s4.2.1.trans k3
  generalize nw A3 B 4 12 2 = A4 at s4 r4 o4 l4 t4 b4 u4 k4 ⊢
  obtain ⟨s5, r5, o5, l5, t5, b5⟩ := ar_step (B := B) (g := B + 27) (j := 5) (kd := 11) (len := 2) t4 (by omega)
  have u5 := ar_none (B := B) (g := B + 27) (j := 5) (kd := 11) (len := 2) t4 (by omega)
  rw [nw_run (by omega) k4]
  have k5 : gK (nw A4 B 5 11 2) B = 7 := s5.2.1.trans k4
  generalize nw A4 B 5 11 2 = A5 at s5 r5 o5 l5 t5 b5 u5 k5 ⊢
  rw [ck_t k5, nm_s]
  have s6 : Sm B (B + 28) A5 (sL A5 B 6 1) := Sm.long
  have o6 : ∀ q, q ≠ 99 → gR (sL A5 B 6 1) B q = gR A5 B q := fun _ _ => rfl
  have l6 : (sL A5 B 6 1).2.1 B 6 = 1 := by
    show (if B = B ∧ 6 = 6 then (1 : Int64) else _) = _
    rw [if_pos ⟨rfl, rfl⟩]
  have t6 : gT (sL A5 B 6 1) = B + 28 := t5
  have k6 : gK (sL A5 B 6 1) B = 7 := k5
  generalize sL A5 B 6 1 = A6 at s6 o6 l6 t6 k6 ⊢
  obtain ⟨A7, e7, s7, r7, o7, l7, t7, b7⟩ := rd_step (B := B) (g := B + 28) t6 (by omega) k6
  rw [e7]
  have k7 : gK A7 B = 7 := s7.2.1.trans k6
  obtain ⟨A8, e8, s8, r8, o8, l8, t8, b8⟩ := ob_step (B := B) (g := B + 44) (k := 4) (n := 17) (j := 8) (f := f_X4_init) t7 (by omega) k7 (fun M0 h1 h2 => i_X4 h1 h2)
  rw [e8]
  have k8 : gK A8 B = 7 := s8.2.1.trans k7
  obtain ⟨A9, e9, s9, r9, o9, l9, t9, b9⟩ := ob_step (B := B) (g := B + 53) (k := 1) (n := 3) (j := 9) (f := f_X1_init) t8 (by omega) k8 (fun M0 h1 h2 => i_X1 h1 h2)
  rw [e9]
  have k9 : gK A9 B = 7 := s9.2.1.trans k8
  obtain ⟨A10, e10, s10, r10, o10, l10, t10, b10⟩ := ob_step (B := B) (g := B + 55) (k := 0) (n := 2) (j := 10) (f := f_X0_init) t9 (by omega) k9 (fun M0 h1 h2 => i_X0 h1 h2)
  rw [e10]
  have k10 : gK A10 B = 7 := s10.2.1.trans k9
  obtain ⟨A11, e11, s11, r11, o11, l11, t11, b11⟩ := ob_step (B := B) (g := B + 56) (k := 2) (n := 2) (j := 11) (f := f_X2_init) t10 (by omega) k10 (fun M0 h1 h2 => i_X2 h1 h2)
  rw [e11]
  have k11 : gK A11 B = 7 := s11.2.1.trans k10
  have F11 : Sm B (B + 59) A11 A11 := Sm.rf
  have F10 : Sm B (B + 56) A10 A11 := s11.tr F11 (by omega)
  have F9 : Sm B (B + 55) A9 A11 := s10.tr F10 (by omega)
  have F8 : Sm B (B + 53) A8 A11 := s9.tr F9 (by omega)
  have F7 : Sm B (B + 44) A7 A11 := s8.tr F8 (by omega)
  have F6 : Sm B (B + 28) A6 A11 := s7.tr F7 (by omega)
  have F5 : Sm B (B + 28) A5 A11 := s6.tr F6 (by omega)
  have F4 : Sm B (B + 27) A4 A11 := s5.tr F5 (by omega)
  have F3 : Sm B (B + 26) A3 A11 := s4.tr F4 (by omega)
  have F2 : Sm B (B + 26) A2 A11 := s3.tr F3 (by omega)
  have F1 : Sm B (B + 25) A1 A11 := s2.tr F2 (by omega)
  have F0 : Sm B (B + 15) A0 A11 := s1.tr F1 (by omega)
  exact ⟨A11, rfl,
    t11,
    k11,
    fun z => F0.2.2 (s0.2.2 z),
    by rw [l11, l10, l9, l8, l7]; exact l6,
    b0.keep F0 (by omega) (by omega) (by omega),
    b1.keep F1 (by omega) (by omega) (by omega),
    b7.keep F7 (by omega) (by omega),
    b8.keep F8 (by omega) (by omega) (by omega),
    b9.keep F9 (by omega) (by omega) (by omega),
    b10.keep F10 (by omega) (by omega) (by omega),
    b11,
    ⟨by show A11.2.2.2.1 (B + 25) = _; rw [(F2.1 (B + 25) (by omega) (by omega)).2.2.1]; exact b2.1, by show A11.2.2.2.2.1 (B + 25) = _; rw [(F2.1 (B + 25) (by omega) (by omega)).2.2.2]; exact b2.2, fun q => by show A11.2.2.1 (B + 25) q = none; rw [(F2.1 (B + 25) (by omega) (by omega)).2.1]; exact u2 q⟩,
    ⟨by show A11.2.2.2.1 (B + 26) = _; rw [(F4.1 (B + 26) (by omega) (by omega)).2.2.1]; exact b4.1, by show A11.2.2.2.2.1 (B + 26) = _; rw [(F4.1 (B + 26) (by omega) (by omega)).2.2.2]; exact b4.2, fun q => by show A11.2.2.1 (B + 26) q = none; rw [(F4.1 (B + 26) (by omega) (by omega)).2.1]; exact u4 q⟩,
    ⟨by show A11.2.2.2.1 (B + 27) = _; rw [(F5.1 (B + 27) (by omega) (by omega)).2.2.1]; exact b5.1, by show A11.2.2.2.2.1 (B + 27) = _; rw [(F5.1 (B + 27) (by omega) (by omega)).2.2.2]; exact b5.2⟩,
    by rw [o11 0 (by omega), o10 0 (by omega), o9 0 (by omega), o8 0 (by omega), o7 0 (by omega), o6 0 (by omega), o5 0 (by omega), o4 0 (by omega), o3 0 (by omega), o2 0 (by omega), o1 0 (by omega)]; exact r0,
    by rw [o11 1 (by omega), o10 1 (by omega), o9 1 (by omega), o8 1 (by omega), o7 1 (by omega), o6 1 (by omega), o5 1 (by omega), o4 1 (by omega), o3 1 (by omega), o2 1 (by omega)]; exact r1,
    by rw [o11 2 (by omega), o10 2 (by omega), o9 2 (by omega), o8 2 (by omega), o7 2 (by omega), o6 2 (by omega), o5 2 (by omega), o4 2 (by omega), o3 2 (by omega)]; exact r2,
    by rw [o11 4 (by omega), o10 4 (by omega), o9 4 (by omega), o8 4 (by omega), o7 4 (by omega), o6 4 (by omega), o5 4 (by omega)]; exact r4,
    by rw [o11 5 (by omega), o10 5 (by omega), o9 5 (by omega), o8 5 (by omega), o7 5 (by omega), o6 5 (by omega)]; exact r5,
    by rw [o11 7 (by omega), o10 7 (by omega), o9 7 (by omega), o8 7 (by omega)]; exact r7,
    by rw [o11 8 (by omega), o10 8 (by omega), o9 8 (by omega)]; exact r8,
    by rw [o11 9 (by omega), o10 9 (by omega)]; exact r9,
    by rw [o11 10 (by omega)]; exact r10,
    by exact r11⟩
