section LOAN
variable {B t c fed nd l : Nat} {T S tp im : Nat → Nat} {D G : Nat → Nat → Nat} {M N : Mm} {x y : Int32}
theorem sN_old {M : Mm} {kd n b : Nat} (h : b < gT M) : (sN M kd n).1 b = M.1 b ∧ (sN M kd n).2.1 b = M.2.1 b ∧ (sN M kd n).2.2.1 b = M.2.2.1 b ∧ (sN M kd n).2.2.2.1 b = M.2.2.2.1 b ∧ (sN M kd n).2.2.2.2.1 b = M.2.2.2.2.1 b := by
  have hn : ¬ b = gT M := by omega
  refine ⟨?_, ?_, ?_, ?_, ?_⟩
  · funext i; show (if b = gT M then _ else _) = _; rw [if_neg hn]
  · funext i; show (if b = gT M then _ else _) = _; rw [if_neg hn]
  · funext i; show (if b = gT M then _ else _) = _; rw [if_neg hn]
  · show (if b = gT M then _ else _) = _; rw [if_neg hn]
  · show (if b = gT M then _ else _) = _; rw [if_neg hn]
/-- a new cell that nobody looks at -/
theorem inv_new {kd n : Nat} (h : CQ B t M T S c ∧ RQ B M T S c ∧ CX B t M T fed tp nd D im G ∧ RX B M fed tp nd D im G ∧ AX T c fed tp nd D im G) : CQ B t (sN M kd n) T S c ∧ RQ B (sN M kd n) T S c ∧ CX B t (sN M kd n) T fed tp nd D im G ∧ RX B (sN M kd n) fed tp nd D im G ∧ AX T c fed tp nd D im G := by
  obtain ⟨h1, h2, h3, h4, h5⟩ := h
  have hblk := h3.2.2.2.2.2.2.2.2.2
  have hT : B + 71 ≤ gT M := hblk.1
  have old : ∀ b, b < gT M → (sN M kd n).1 b = M.1 b ∧ (sN M kd n).2.1 b = M.2.1 b ∧ (sN M kd n).2.2.1 b = M.2.2.1 b ∧ (sN M kd n).2.2.2.1 b = M.2.2.2.1 b ∧ (sN M kd n).2.2.2.2.1 b = M.2.2.2.2.1 b := fun b hb => sN_old hb
  have ht : t = B + 1 ∨ t = B + 30 := by
    obtain ⟨d, hd, -⟩ := h3.1
    omega
  have hst : ∀ a, a + 10 ≤ gT M → StA a M.2.2 → StA a (sN M kd n).2.2 := fun a ha q => StA.ext (fun b _ b2 => (old b (by omega)).2.2) q
  have htm : ∀ a, a + 14 ≤ gT M → TmA a M.2.2 → TmA a (sN M kd n).2.2 := fun a ha q => TmA.ext (fun b _ b2 => (old b (by omega)).2.2) q
  have hcs : ∀ a Q, a + 10 ≤ gT M → CS M.1 a T Q → CS (sN M kd n).1 a T Q := fun a Q ha q => q.of (fun b _ b2 => (old b (by omega)).1)
  refine ⟨?_, ?_, ?_, ?_, h5⟩
  · obtain ⟨a1, a2, a3, a4, a5, a6, a7, a8⟩ := h1
    refine ⟨CmA.ext (fun b _ b2 => ⟨fun _ _ i _ _ => by rw [(old b (by omega)).2.2.1], (old b (by omega)).2.2.2⟩) a1, by rw [(old B (by omega)).2.2.1]; exact a2, htm t (by omega) a3, hst _ (by omega) a4, a5, a6.of (fun b _ b2 => (old b (by omega)).1), hcs _ _ (by omega) a7, a8⟩
  · obtain ⟨a1, a2, a3, a4⟩ := h2
    exact ⟨RfA.ext (fun b _ b2 => ⟨fun _ _ i _ _ => by rw [(old b (by omega)).2.2.1], (old b (by omega)).2.2.2⟩) a1, by rw [(old (B + 61) (by omega)).1]; exact a2, by rw [(old (B + 63) (by omega)).1]; exact a3, a4⟩
  · obtain ⟨a1, a2, a3, a4, a5, a6, a7, a8, a9, a10⟩ := h3
    have hent : ∀ k, ent B (sN M kd n).2.2 k = ent B M.2.2 k := fun k => by
      unfold ent
      rw [(old (B + 25) (by omega)).2.2.1, (old (B + 26) (by omega)).2.2.1]
    refine ⟨?_, htm _ (by omega) a2, htm _ (by omega) a3, ?_, ?_, ?_, ?_, ?_, ?_, ?_⟩
    · rw [(old (B + 28) (by omega)).2.2.1]; exact a1
    · rw [(old (B + 28) (by omega)).1]; exact a4
    · rw [(old (B + 29) (by omega)).1]; exact a5
    · rw [(old B (by omega)).1]; exact a6
    · intro k hk
      obtain ⟨a, q1, q2⟩ := a7 k hk
      have q3 := (a10.2.1 k (by have := h5.2.2.1; omega) a (by unfold ent; rw [if_pos (by have := h5.2.2.1; omega)]; exact q1)).2.2
      exact ⟨a, by rw [(old (B + 25) (by omega)).2.2.1]; exact q1, hcs a _ q3 q2⟩
    · rw [(old (B + 27) (by omega)).1]; exact a8
    · intro k hk hq
      obtain ⟨a, q1, q2⟩ := a9 k hk hq
      have q3 := (a10.2.1 (k + 12) (by omega) a (by unfold ent; rw [if_neg (by omega), Nat.add_sub_cancel]; exact q1)).2.2
      exact ⟨a, by rw [(old (B + 26) (by omega)).2.2.1]; exact q1, hcs a _ q3 q2⟩
    · refine ⟨?_, fun k hk a ha => ?_, fun k j hk hj hne a b ha hb => ?_⟩
      · show B + 71 ≤ gT M + 1
        omega
      · rw [hent] at ha
        have := a10.2.1 k hk a ha
        refine ⟨hst a this.2.2 this.1, this.2.1, ?_⟩
        show a + 10 ≤ gT M + 1
        have h9 : a + 10 ≤ gT M := this.2.2
        omega
      · rw [hent] at ha hb
        exact a10.2.2 k j hk hj hne a b ha hb
  · exact h4.keep (old _ (by omega)).1 (old _ (by omega)).1 (old _ (by omega)).1 (old _ (by omega)).1 (by rw [(old (B + 59) (by omega)).1]) (by rw [(old (B + 59) (by omega)).1])
end LOAN
