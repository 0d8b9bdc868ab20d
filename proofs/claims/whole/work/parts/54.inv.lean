/-- the states that are kept, by their places: 12 done, 2 images -/
def ent (B : Nat) (sh : Shp) (k : Nat) : Option Nat := if k < 12 then sh.1 (B + 25) k else sh.1 (B + 26) (k - 12)
def Blk (B : Nat) (sh : Shp) : Prop := B + 71 ≤ sh.2.2.2 ∧ (∀ k, k < 14 → ∀ a, ent B sh k = some a → StA a sh ∧ B + 71 ≤ a ∧ a + 10 ≤ sh.2.2.2) ∧ ∀ k j, k < 14 → j < 14 → k ≠ j → ∀ a b, ent B sh k = some a → ent B sh j = some b → a + 10 ≤ b ∨ b + 10 ≤ a
def CX (B t : Nat) (M : Mm) (T : Nat → Nat) (fed : Nat) (tp : Nat → Nat) (nd : Nat) (D : Nat → Nat → Nat) (im : Nat → Nat) (G : Nat → Nat → Nat) : Prop :=
  (∃ d, ((t = B + 1 ∧ d = B + 30) ∨ (t = B + 30 ∧ d = B + 1)) ∧ M.2.2.1 (B + 28) 3 = some d) ∧ TmA (B + 1) M.2.2 ∧ TmA (B + 30) M.2.2 ∧ M.1 (B + 28) 1 = nI fed ∧ (∀ k, k < fed → M.1 (B + 29) k = nI (tp k)) ∧ M.1 B 3 = nI nd ∧
  (∀ k, k < nd → ∃ a, M.2.2.1 (B + 25) k = some a ∧ CS M.1 a T (D k)) ∧ (∀ k, k < 2 → M.1 (B + 27) k = nI (im k)) ∧ (∀ k, k < 2 → im k = 1 → ∃ a, M.2.2.1 (B + 26) k = some a ∧ CS M.1 a T (G k)) ∧ Blk B M.2.2
def RX (B : Nat) (M : Mm) (fed : Nat) (tp : Nat → Nat) (nd : Nat) (D : Nat → Nat → Nat) (im : Nat → Nat) (G : Nat → Nat → Nat) : Prop :=
  M.1 (B + 59) 2 = nI fed ∧ (∀ k, k < fed → M.1 (B + 60) k &&& 255 = nI (tp k)) ∧ M.1 (B + 59) 23 = nI nd ∧ (∀ k, k < nd → ∀ j, j < 1407 → M.1 (B + 65) (1407 * k + j) = nI (D k j)) ∧ (∀ k, k < 2 → M.1 (B + 66) k = nI (im k)) ∧ ∀ k, k < 2 → im k = 1 → ∀ j, j < 1407 → M.1 (B + 67) (1407 * k + j) = nI (G k j)
def AX (T : Nat → Nat) (c fed : Nat) (tp : Nat → Nat) (nd : Nat) (D : Nat → Nat → Nat) (im : Nat → Nat) (G : Nat → Nat → Nat) : Prop := fed ≤ 700 ∧ (∀ k, k < fed → tp k < 256) ∧ nd ≤ 12 ∧ (∀ k, k < nd → SW T (D k) c) ∧ ∀ k, k < 2 → im k ≤ 1 ∧ (im k = 1 → SW T (G k) c)
/-- what holds between two calls of the law, behind c of them -/
def Inv (B c : Nat) (M : Mm) : Prop := ∃ (t : Nat) (T S : Nat → Nat) (fed : Nat) (tp : Nat → Nat) (nd : Nat) (D : Nat → Nat → Nat) (im : Nat → Nat) (G : Nat → Nat → Nat),
  CQ B t M T S c ∧ RQ B M T S c ∧ CX B t M T fed tp nd D im G ∧ RX B M fed tp nd D im G ∧ AX T c fed tp nd D im G ∧ M.2.1 B 6 = M.2.1 (B + 59) 28
/-- a question of the component's changed only what it works with -/
def KC (B : Nat) (M M' : Mm) : Prop := M'.2.2 = M.2.2 ∧ (∀ a, a < B + 44 ∨ B + 59 ≤ a → M'.1 a = M.1 a) ∧ M'.2.1 (B + 59) = M.2.1 (B + 59)
/-- a question of the reference's changed only what it works with -/
def KR (B : Nat) (M M' : Mm) : Prop := M'.2.2 = M.2.2 ∧ (∀ a, a ≠ B + 59 → a ≠ B + 68 → a ≠ B + 69 → M'.1 a = M.1 a) ∧ M'.1 (B + 59) 2 = M.1 (B + 59) 2 ∧ M'.1 (B + 59) 23 = M.1 (B + 59) 23 ∧ M'.2.1 B = M.2.1 B
theorem KC.rf {B : Nat} {M : Mm} : KC B M M := ⟨rfl, fun _ _ => rfl, rfl⟩
theorem KR.rf {B : Nat} {M : Mm} : KR B M M := ⟨rfl, fun _ _ _ _ => rfl, rfl, rfl, rfl⟩
theorem KC.tr {B : Nat} {M N P : Mm} (h : KC B M N) (g : KC B N P) : KC B M P := ⟨g.1.trans h.1, fun a ha => (g.2.1 a ha).trans (h.2.1 a ha), g.2.2.trans h.2.2⟩
theorem KR.tr {B : Nat} {M N P : Mm} (h : KR B M N) (g : KR B N P) : KR B M P := ⟨g.1.trans h.1, fun a h1 h2 h3 => (g.2.1 a h1 h2 h3).trans (h.2.1 a h1 h2 h3), g.2.2.1.trans h.2.2.1, g.2.2.2.1.trans h.2.2.2.1, g.2.2.2.2.trans h.2.2.2.2⟩
theorem CS.of {I J : Im} {a : Nat} {T S : Nat → Nat} (h : CS I a T S) (e : ∀ b, a ≤ b → b < a + 10 → J b = I b) : CS J a T S := by
  unfold CS
  rw [e a (by omega) (by omega), e (a + 1) (by omega) (by omega), e (a + 2) (by omega) (by omega), e (a + 3) (by omega) (by omega), e (a + 4) (by omega) (by omega), e (a + 5) (by omega) (by omega), e (a + 6) (by omega) (by omega), e (a + 7) (by omega) (by omega), e (a + 8) (by omega) (by omega), e (a + 9) (by omega) (by omega)]
  exact h
theorem CT.of {I J : Im} {t : Nat} {T : Nat → Nat} (h : CT I t T) (e : ∀ b, t ≤ b → b < t + 14 → J b = I b) : CT J t T := by
  unfold CT
  rw [e t (by omega) (by omega), e (t + 2) (by omega) (by omega), e (t + 3) (by omega) (by omega), e (t + 4) (by omega) (by omega), e (t + 5) (by omega) (by omega), e (t + 6) (by omega) (by omega), e (t + 7) (by omega) (by omega), e (t + 8) (by omega) (by omega), e (t + 12) (by omega) (by omega)]
  exact h
theorem SW.mono {T S : Nat → Nat} {c d : Nat} (h : SW T S c) (hd : c ≤ d) : SW T S d := by
  obtain ⟨h1, h2, h3, h4⟩ := h
  refine ⟨h1, h2, fun l hl => ?_, h4⟩
  have := h3 l hl
  refine ⟨this.1, this.2.1, Nat.le_trans this.2.2 (Nat.mul_le_mul_left _ hd)⟩
theorem AX.mono {T : Nat → Nat} {c d fed : Nat} {tp : Nat → Nat} {nd : Nat} {D : Nat → Nat → Nat} {im : Nat → Nat} {G : Nat → Nat → Nat} (h : AX T c fed tp nd D im G) (hd : c ≤ d) : AX T d fed tp nd D im G := by
  obtain ⟨h1, h2, h3, h4, h5⟩ := h
  exact ⟨h1, h2, h3, fun k hk => (h4 k hk).mono hd, fun k hk => ⟨(h5 k hk).1, fun q => ((h5 k hk).2 q).mono hd⟩⟩
section KEEP
variable {B t c fed nd : Nat} {T S tp im : Nat → Nat} {D G : Nat → Nat → Nat} {M N : Mm}
theorem CQ.keep (h : CQ B t M T S c) (hx : CX B t M T fed tp nd D im G) (hs : N.2.2 = M.2.2) (hi : ∀ a, a < B + 44 → N.1 a = M.1 a) : CQ B t N T S c := by
  obtain ⟨h1, h2, h3, h4, h5, h6, h7, h8⟩ := h
  obtain ⟨d, hd, -⟩ := hx.1
  refine ⟨by rw [hs]; exact h1, by rw [hs]; exact h2, by rw [hs]; exact h3, by rw [hs]; exact h4, h5, h6.of (fun b b1 b2 => hi b (by omega)), h7.of (fun b b1 b2 => hi b (by omega)), h8⟩
theorem CX.keep (hx : CX B t M T fed tp nd D im G) (hn : nd ≤ 12) (hs : N.2.2 = M.2.2) (hi : ∀ a, a < B + 44 → N.1 a = M.1 a) (hj : ∀ a, B + 71 ≤ a → N.1 a = M.1 a) : CX B t N T fed tp nd D im G := by
  obtain ⟨h1, h2, h3, h4, h5, h6, h7, h8, h9, h10⟩ := hx
  unfold CX
  rw [hs, hi (B + 28) (by omega), hi (B + 29) (by omega), hi B (by omega), hi (B + 27) (by omega)]
  refine ⟨h1, h2, h3, h4, h5, h6, fun k hk => ?_, h8, fun k hk hq => ?_, h10⟩
  · obtain ⟨a, q1, q2⟩ := h7 k hk
    have q3 := (h10.2.1 k (by omega) a (by unfold ent; rw [if_pos (by omega)]; exact q1)).2
    exact ⟨a, q1, q2.of (fun b b1 b2 => hj b (by omega))⟩
  · obtain ⟨a, q1, q2⟩ := h9 k hk hq
    have q3 := (h10.2.1 (k + 12) (by omega) a (by unfold ent; rw [if_neg (by omega), Nat.add_sub_cancel]; exact q1)).2
    exact ⟨a, q1, q2.of (fun b b1 b2 => hj b (by omega))⟩
theorem RQ.keep (h : RQ B M T S c) (hs : N.2.2 = M.2.2) (h1 : N.1 (B + 61) = M.1 (B + 61)) (h3 : N.1 (B + 63) = M.1 (B + 63)) : RQ B N T S c := by
  unfold RQ
  rw [hs, h1, h3]
  exact h
theorem RX.keep (h : RX B M fed tp nd D im G) (h0 : N.1 (B + 60) = M.1 (B + 60)) (h5 : N.1 (B + 65) = M.1 (B + 65)) (h6 : N.1 (B + 66) = M.1 (B + 66)) (h7 : N.1 (B + 67) = M.1 (B + 67)) (ha : N.1 (B + 59) 2 = M.1 (B + 59) 2) (hb : N.1 (B + 59) 23 = M.1 (B + 59) 23) : RX B N fed tp nd D im G := by
  unfold RX
  rw [h0, h5, h6, h7, ha, hb]
  exact h
end KEEP
theorem inv_q {B c : Nat} {t : Nat} {T S : Nat → Nat} {fed : Nat} {tp : Nat → Nat} {nd : Nat} {D : Nat → Nat → Nat} {im : Nat → Nat} {G : Nat → Nat → Nat} {M N P : Mm} (h : CQ B t M T S c ∧ RQ B M T S c ∧ CX B t M T fed tp nd D im G ∧ RX B M fed tp nd D im G ∧ AX T c fed tp nd D im G) (hc : c + 1 ≤ 600) (k1 : KC B M N) (k2 : KR B N P) (hbl : P.2.1 B 6 = P.2.1 (B + 59) 28) : Inv B (c + 1) P := by
  obtain ⟨h1, h2, h3, h4, h5⟩ := h
  have e1 : P.2.2 = M.2.2 := k2.1.trans k1.1
  have e2 : ∀ a, a < B + 44 → P.1 a = M.1 a := fun a ha => (k2.2.1 a (by omega) (by omega) (by omega)).trans (k1.2.1 a (Or.inl ha))
  have e3 : ∀ a, B + 71 ≤ a → P.1 a = M.1 a := fun a ha => (k2.2.1 a (by omega) (by omega) (by omega)).trans (k1.2.1 a (Or.inr (by omega)))
  have e4 : ∀ a, B + 59 < a → a < B + 68 → P.1 a = M.1 a := fun a ha hb => (k2.2.1 a (by omega) (by omega) (by omega)).trans (k1.2.1 a (Or.inr (by omega)))
  have e5 := k1.2.1 (B + 59) (Or.inr (by omega))
  have q1 := h1.keep h3 e1 e2
  have q2 := h2.keep e1 (e4 _ (by omega) (by omega)) (e4 _ (by omega) (by omega))
  refine ⟨t, T, S, fed, tp, nd, D, im, G, ?_, ?_, h3.keep h5.2.2.1 e1 e2 e3, h4.keep (e4 _ (by omega) (by omega)) (e4 _ (by omega) (by omega)) (e4 _ (by omega) (by omega)) (e4 _ (by omega) (by omega)) (by rw [k2.2.2.1, e5]) (by rw [k2.2.2.2.1, e5]), h5.mono (by omega), hbl⟩
  · obtain ⟨a1, a2, a3, a4, a5, a6, a7, a8, a9⟩ := q1
    exact ⟨a1, a2, a3, a4, a5, a6, a7, a8.mono (by omega), hc⟩
  · obtain ⟨a1, a2, a3, a4, a5, a6⟩ := q2
    exact ⟨a1, a2, a3, a4, a5.mono (by omega), hc⟩
/-- class and reference answer alike, and what held holds again -/
def Pr {α : Type} (B c : Nat) (fx fm : Mm → Option (α × Mm)) : Prop := ∀ M, Inv B c M → Ok (fx M) (fun v N => N.2.2.2.1 (B + 59) = 8 ∧ Ok (fm N) (fun w P => v = w ∧ Inv B (c + 1) P))
/-- for questions that change nothing but 'thrown' -/
theorem pr_0 {α : Type} {B c : Nat} (hc : c + 1 ≤ 600) {fx fm : Mm → Option (α × Mm)} (h : ∀ M t T S fed tp nd D im G, CQ B t M T S c → RQ B M T S c → CX B t M T fed tp nd D im G → RX B M fed tp nd D im G → AX T c fed tp nd D im G → ∃ v, fx M = some (v, M) ∧ fm M = some (v, sI M (B + 59) 0 (nI 0))) : Pr B c fx fm := by
  intro M ⟨t, T, S, fed, tp, nd, D, im, G, h1, h2, h3, h4, h5, h6⟩
  obtain ⟨v, e1, e2⟩ := h M t T S fed tp nd D im G h1 h2 h3 h4 h5
  refine ⟨v, M, e1, h2.1.1, v, _, e2, rfl, ?_⟩
  refine inv_q ⟨h1, h2, h3, h4, h5⟩ hc KC.rf ⟨rfl, fun a ha _ _ => sI_ne ha, ?_, ?_, rfl⟩ h6
  · show (if _ ∧ 2 = 0 then _ else _) = _
    rw [if_neg (by omega)]
  · show (if _ ∧ 23 = 0 then _ else _) = _
    rw [if_neg (by omega)]
