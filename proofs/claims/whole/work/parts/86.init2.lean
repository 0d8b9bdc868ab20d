/-- an object with its arrays behind it -/
def BF (a k : Nat) (sl kd ln : Nat → Nat) (i : Nat) (N : Mm) : Prop := gK N a = k ∧ ∀ x, x < i → gK N (a + 1 + x) = kd x ∧ gN N (a + 1 + x) = ln x ∧ gR N a (sl x) = some (a + 1 + x)
/-- nothing below g but references of the cell B has changed -/
def Sm (B g : Nat) (M N : Mm) : Prop := (∀ b, b < g → b ≠ B → N.2.1 b = M.2.1 b ∧ N.2.2.1 b = M.2.2.1 b ∧ N.2.2.2.1 b = M.2.2.2.1 b ∧ N.2.2.2.2.1 b = M.2.2.2.2.1 b) ∧ gK N B = gK M B ∧ (Zr M → Zr N)
theorem Sm.rf {B g : Nat} {M : Mm} : Sm B g M M := ⟨fun _ _ _ => ⟨rfl, rfl, rfl, rfl⟩, rfl, fun z => z⟩
theorem Sm.tr {B g h : Nat} {M N P : Mm} (h1 : Sm B g M N) (h2 : Sm B h N P) (hg : g ≤ h) : Sm B g M P := by
  refine ⟨fun b hb hn => ?_, h2.2.1.trans h1.2.1, fun z => h2.2.2 (h1.2.2 z)⟩
  have a1 := h1.1 b hb hn
  have a2 := h2.1 b (by omega) hn
  exact ⟨a2.1.trans a1.1, a2.2.1.trans a1.2.1, a2.2.2.1.trans a1.2.2.1, a2.2.2.2.trans a1.2.2.2⟩
theorem BF.keep {B g a k i : Nat} {sl kd ln : Nat → Nat} {M N : Mm} (h : BF a k sl kd ln i M) (hs : Sm B g M N) (hg : a + 1 + i ≤ g) (hB : a ≠ B) (hB2 : B < a) : BF a k sl kd ln i N := by
  refine ⟨?_, fun x hx => ?_⟩
  · show N.2.2.2.1 a = k
    rw [(hs.1 a (by omega) hB).2.2.1]
    exact h.1
  · have a1 := hs.1 (a + 1 + x) (by omega) (by omega)
    have a2 := hs.1 a (by omega) hB
    have := h.2 x hx
    refine ⟨?_, ?_, ?_⟩
    · show N.2.2.2.1 (a + 1 + x) = _
      rw [a1.2.2.1]; exact this.1
    · show N.2.2.2.2.1 (a + 1 + x) = _
      rw [a1.2.2.2]; exact this.2.1
    · show N.2.2.1 a (sl x) = _
      rw [a2.2.1]; exact this.2.2
/-- a part is made and kept in a slot of the cell B -/
theorem ob_step {B g k n j i kB : Nat} {M : Mm} {sl kd ln : Nat → Nat} {f : Nat → Mm → Option (Unit × Mm)} (hT : gT M = g) (hB : B < g) (hk : gK M B = kB) (hf : ∀ M0, gT M0 = g + 1 → gK M0 g = k → ∃ N, f g M0 = some ((), N) ∧ Cc g k sl kd ln M0 i N) :
    ∃ N, (∀ {β : Type} (cont : Mm → Option β), (nm (gT M) fun q => nm (sN M k n) fun M2 => bd (f q M2) fun _ M3 => ck (gK M3 B = kB) (nm (sR M3 B j (some q)) fun M4 => cont M4)) = cont N) ∧ Sm B g M N ∧ gR N B j = some g ∧ (∀ q, q ≠ j → gR N B q = gR M B q) ∧ N.2.1 B = M.2.1 B ∧ gT N = g + 1 + i ∧ BF g k sl kd ln i N := by
  have e0 : gT (sN M k n) = g + 1 := by rw [gT_sN, hT]
  have e1 : gK (sN M k n) g = k := by rw [gK_sN, if_pos hT.symm]
  obtain ⟨N, eN, c1, c2, c3, c4, c5⟩ := hf (sN M k n) e0 e1
  have old : ∀ b, b < g → N.2.1 b = M.2.1 b ∧ N.2.2.1 b = M.2.2.1 b ∧ N.2.2.2.1 b = M.2.2.2.1 b ∧ N.2.2.2.2.1 b = M.2.2.2.2.1 b := fun b hb => by
    have a1 := c4 b hb
    have a2 := (sN_old (M := M) (kd := k) (n := n) (b := b) (by omega)).2
    exact ⟨a1.1.trans a2.1, a1.2.1.trans a2.2.1, a1.2.2.1.trans a2.2.2.1, a1.2.2.2.trans a2.2.2.2⟩
  have hkN : gK N B = kB := by
    show N.2.2.2.1 B = kB
    rw [(old B hB).2.2.1]; exact hk
  refine ⟨sR N B j (some g), fun cont => ?_, ⟨fun b hb hn => ?_, ?_, fun z => ?_⟩, ?_, fun q hq => ?_, ?_, c1, ⟨c2, fun x hx => ?_⟩⟩
  · rw [nm_s, nm_s, hT, eN, bd_s, ck_t hkN, nm_s]
  · have := old b hb
    refine ⟨this.1, ?_, this.2.2⟩
    rw [← this.2.1]
    funext q
    show (if b = B ∧ q = j then _ else _) = _
    rw [if_neg (fun h => hn h.1)]
  · show gK N B = gK M B
    rw [hkN, hk]
  · exact c5 (fun b q => by show (if b = gT M then 0 else M.1 b q) = 0; split; rfl; exact z b q)
  · show (if B = B ∧ j = j then _ else _) = _
    rw [if_pos ⟨rfl, rfl⟩]
  · show (if B = B ∧ q = j then _ else N.2.2.1 B q) = M.2.2.1 B q
    rw [if_neg (fun h => hq h.2), (old B hB).2.1]
  · exact (old B hB).1
  · have := c3 x hx
    refine ⟨this.1, this.2.1, ?_⟩
    show (if g = B ∧ sl x = j then _ else N.2.2.1 g (sl x)) = _
    rw [if_neg (by omega)]
    exact this.2.2
theorem ar_step {B g j kd len : Nat} {M : Mm} (hT : gT M = g) (hB : B < g) : Sm B g M (nw M B j kd len) ∧ gR (nw M B j kd len) B j = some g ∧ (∀ q, q ≠ j → gR (nw M B j kd len) B q = gR M B q) ∧ (nw M B j kd len).2.1 B = M.2.1 B ∧ gT (nw M B j kd len) = g + 1 ∧ gK (nw M B j kd len) g = kd ∧ gN (nw M B j kd len) g = len := by
  have old : ∀ b, b < g → (sN M kd len).2.1 b = M.2.1 b ∧ (sN M kd len).2.2.1 b = M.2.2.1 b ∧ (sN M kd len).2.2.2.1 b = M.2.2.2.1 b ∧ (sN M kd len).2.2.2.2.1 b = M.2.2.2.2.1 b := fun b hb => (sN_old (by omega)).2
  refine ⟨⟨fun b hb hn => ?_, ?_, fun z b q => ?_⟩, ?_, fun q hq => ?_, (old B hB).1, ?_, ?_, ?_⟩
  · have := old b hb
    refine ⟨this.1, ?_, this.2.2⟩
    rw [← this.2.1]
    funext q
    show (if b = B ∧ q = j then _ else _) = _
    rw [if_neg (fun h => hn h.1)]
  · exact (old B hB).2.2.1
  · show (if b = gT M then 0 else M.1 b q) = 0
    split
    · rfl
    · exact z b q
  · show (if B = B ∧ j = j then some (gT M) else _) = _
    rw [if_pos ⟨rfl, rfl⟩, hT]
  · show (if B = B ∧ q = j then _ else (sN M kd len).2.2.1 B q) = M.2.2.1 B q
    rw [if_neg (fun h => hq h.2), (old B hB).2.1]
  · show gT M + 1 = _
    omega
  · show (if g = gT M then kd else _) = _
    rw [if_pos hT.symm]
  · show (if g = gT M then len else _) = _
    rw [if_pos hT.symm]
theorem Sm.int {B g j : Nat} {M : Mm} : Sm B g M (sI M B j 0) := ⟨fun _ _ _ => ⟨rfl, rfl, rfl, rfl⟩, rfl, fun z b q => by
  show (if b = B ∧ q = j then 0 else M.1 b q) = 0
  split
  · rfl
  · exact z b q⟩
theorem Sm.long {B g j : Nat} {M : Mm} {v : Int64} : Sm B g M (sL M B j v) := ⟨fun b _ hn => ⟨by funext q; show (if b = B ∧ q = j then _ else _) = _; rw [if_neg (fun h => hn h.1)], rfl, rfl, rfl⟩, rfl, fun z => z⟩
theorem i_X3 {a : Nat} {M0 : Mm} (hT : gT M0 = a + 1) (hK : gK M0 a = 3) : ∃ N, f_X3_init a M0 = some ((), N) ∧ Sm a (a + 1) M0 N ∧ gT N = a + 16 ∧ gR N a 0 = some (a + 1) ∧ gK N (a + 1) = 10 ∧ gN N (a + 1) = 700 ∧ gR N a 3 = some (a + 2) ∧ BF (a + 2) 6 sl6 kd6 ln6 13 N := by
  unfold f_X3_init
  obtain ⟨s1, r1, o1, l1, t1, k1, n1⟩ := ar_step (B := a) (g := a + 1) (j := 0) (kd := 10) (len := 700) hT (by omega)
  rw [nw_run (by omega) hK]
  generalize nw M0 a 0 10 700 = M1 at *
  have hk1 : gK M1 a = 3 := s1.2.1.trans hK
  rw [ck_t hk1, nm_s, ck_t (show gK (sI M1 a 1 0) a = 3 from hk1), nm_s]
  have s2 : Sm a (a + 2) M1 (sI (sI M1 a 1 0) a 2 0) := Sm.int.tr Sm.int (Nat.le_refl _)
  have t2 : gT (sI (sI M1 a 1 0) a 2 0) = a + 2 := t1
  have hk2 : gK (sI (sI M1 a 1 0) a 2 0) a = 3 := hk1
  have r2 : gR (sI (sI M1 a 1 0) a 2 0) a 0 = some (a + 1) := r1
  have k2 : gK (sI (sI M1 a 1 0) a 2 0) (a + 1) = 10 := k1
  have n2 : gN (sI (sI M1 a 1 0) a 2 0) (a + 1) = 700 := n1
  generalize sI (sI M1 a 1 0) a 2 0 = M2 at *
  obtain ⟨M3, e3, s3, r3, o3, l3, t3, b3⟩ := ob_step (B := a) (g := a + 2) (k := 6) (n := 18) (j := 3) (f := f_X6_init) t2 (by omega) hk2 (fun M0 h1 h2 => i_X6 h1 h2)
  rw [e3]
  have hk3 : gK M3 a = 3 := s3.2.1.trans hk2
  rw [ck_t hk3, nm_s, ck_t (show gK (sI M3 a 4 0) a = 3 from hk3), nm_s, ck_t (show gK (sI (sI M3 a 4 0) a 5 0) a = 3 from hk3), nm_s, ck_t (show gK (sI (sI (sI M3 a 4 0) a 5 0) a 6 0) a = 3 from hk3), nm_s, ck_t (show gK (sI (sI (sI (sI M3 a 4 0) a 5 0) a 6 0) a 7 0) a = 3 from hk3), nm_s]
  have s4 : Sm a (a + 2) M3 (sI (sI (sI (sI (sI M3 a 4 0) a 5 0) a 6 0) a 7 0) a 8 0) := (((Sm.int.tr Sm.int (Nat.le_refl _)).tr Sm.int (Nat.le_refl _)).tr Sm.int (Nat.le_refl _)).tr Sm.int (Nat.le_refl _)
  have a3 := s3.1 (a + 1) (by omega) (by omega)
  refine ⟨_, rfl, ((s1.tr s2 (by omega)).tr s3 (by omega)).tr s4 (by omega), t3, ?_, ?_, ?_, r3, b3⟩
  · show gR M3 a 0 = _
    rw [o3 0 (by omega)]; exact r2
  · show M3.2.2.2.1 (a + 1) = 10
    rw [a3.2.2.1]; exact k2
  · show M3.2.2.2.2.1 (a + 1) = 700
    rw [a3.2.2.2]; exact n2
