/-! text: a loan's line, a holder's line -/
def pPlan (n : Nat) (tp : Td) (a f : Nat) (T : Td) (k : Nat → Td → Ou) : Ou := if wdT n tp f = 186542 then k (nxT n tp f) (upN (upN T (a + 4) 0) (a + 5) 0) else if wdT n tp f = 632267 then oN n tp 1 99999 (nxT n tp f) (fun x f => k f (upN (upN T (a + 4) 1) (a + 5) x)) else if wdT n tp f = 5572 then k (nxT n tp f) (upN (upN T (a + 4) 2) (a + 5) 0) else .inl (8 * f + 1)
def pLapse (n : Nat) (tp : Td) (a f : Nat) (T : Td) (k : Nat → Td → Ou) : Ou := if wdT n tp f = 12632677 then oN n tp 1 20 (nxT n tp f) (fun x f => k f (upN T (a + 6) x)) else k f (upN T (a + 6) 20)
def pLoan (n : Nat) (tp : Td) (f : Nat) (T S : Td) (l g : Nat) (k : Nat → Td → Td → Ou) : Ou := if l = 4 then .inl (8 * f + 5) else
  oNw n tp (nxT n tp f) T l g (fun x f => oW n tp 2603155 f (fun f => oN n tp 1 60 f (fun x0 f => oW n tp 16434 f (fun f => oN n tp 1 999 f (fun x1 f => oW n tp 117096942 f (fun f => oN n tp 0 99 f (fun x2 f => oW n tp 26379859 f (fun f => oN n tp 1 20 f (fun x3 f =>
  pPlan n tp (12 + 7 * l) f (upN (upN (upN (upN (upN T (2 + l) x) (12 + 7 * l + 0) x0) (12 + 7 * l + 1) x1) (12 + 7 * l + 2) x2) (12 + 7 * l + 3) x3) (fun f T => pLapse n tp (12 + 7 * l) f T (fun f T => k f (upN T 0 (l + 1)) (upN S (1207 + l) (l + 1)))))))))))))
def pHolder (n : Nat) (tp : Td) (f : Nat) (T S : Td) (l g : Nat) (k : Nat → Td → Td → Ou) : Ou := if g = 6 then .inl (8 * f + 5) else
  oNw n tp (nxT n tp f) T l g (fun x f => oW n tp 99944 f (fun f => oN n tp 0 99999 f (fun y f => k f (upN (upN T (6 + g) x) 1 (g + 1)) (upN S (1200 + g) y))))
section TY7
variable {B d n f0 f l w g v i x c lo hi w2 v2 l2 g2 nn j q : Nat} {tp T S T2 S2 : Td} {M0 M N P0 P Q : Mm} {u : Int32}
theorem CP.r5 (h : CP B d n tp M0 f0 f T S l w g v M) : gR M d 5 = some (d + 1) := by
  have hA : TmA d M.2.2 := h.2.2.2.1.2
  simp only [gR, hA]
theorem CP.r6 (h : CP B d n tp M0 f0 f T S l w g v M) : gR M d 6 = some (d + 2) := by
  have hA : TmA d M.2.2 := h.2.2.2.1.2
  simp only [gR, hA]
theorem CP.r7 (h : CP B d n tp M0 f0 f T S l w g v M) : gR M d 7 = some (d + 3) := by
  have hA : TmA d M.2.2 := h.2.2.2.1.2
  simp only [gR, hA]
theorem CP.r8 (h : CP B d n tp M0 f0 f T S l w g v M) : gR M d 8 = some (d + 4) := by
  have hA : TmA d M.2.2 := h.2.2.2.1.2
  simp only [gR, hA]
theorem CP.r9 (h : CP B d n tp M0 f0 f T S l w g v M) : gR M d 9 = some (d + 5) := by
  have hA : TmA d M.2.2 := h.2.2.2.1.2
  simp only [gR, hA]
theorem CP.r10 (h : CP B d n tp M0 f0 f T S l w g v M) : gR M d 10 = some (d + 6) := by
  have hA : TmA d M.2.2 := h.2.2.2.1.2
  simp only [gR, hA]
theorem CP.r11 (h : CP B d n tp M0 f0 f T S l w g v M) : gR M d 11 = some (d + 7) := by
  have hA : TmA d M.2.2 := h.2.2.2.1.2
  simp only [gR, hA]
theorem CP.r12 (h : CP B d n tp M0 f0 f T S l w g v M) : gR M d 12 = some (d + 8) := by
  have hA : TmA d M.2.2 := h.2.2.2.1.2
  simp only [gR, hA]
theorem CP.r13 (h : CP B d n tp M0 f0 f T S l w g v M) : gR M d 13 = some (d + 9) := by
  have hA : TmA d M.2.2 := h.2.2.2.1.2
  simp only [gR, hA]
theorem CP.r14 (h : CP B d n tp M0 f0 f T S l w g v M) : gR M d 14 = some (d + 10) := by
  have hA : TmA d M.2.2 := h.2.2.2.1.2
  simp only [gR, hA]
theorem CP.r15 (h : CP B d n tp M0 f0 f T S l w g v M) : gR M d 15 = some (d + 11) := by
  have hA : TmA d M.2.2 := h.2.2.2.1.2
  simp only [gR, hA]
theorem CP.r16 (h : CP B d n tp M0 f0 f T S l w g v M) : gR M d 16 = some (d + 12) := by
  have hA : TmA d M.2.2 := h.2.2.2.1.2
  simp only [gR, hA]
theorem CP.r17 (h : CP B d n tp M0 f0 f T S l w g v M) : gR M d 17 = some (d + 13) := by
  have hA : TmA d M.2.2 := h.2.2.2.1.2
  simp only [gR, hA]
theorem CP.a1 (h : CP B d n tp M0 f0 f T S l w g v M) : gK M (d + 1) = 10 ∧ gN M (d + 1) = 4 := by
  have hA : TmA d M.2.2 := h.2.2.2.1.2
  refine ⟨?_, ?_⟩
  · simp only [gK, hA]
  · simp only [gN, hA]
theorem CP.a2 (h : CP B d n tp M0 f0 f T S l w g v M) : gK M (d + 2) = 10 ∧ gN M (d + 2) = 4 := by
  have hA : TmA d M.2.2 := h.2.2.2.1.2
  refine ⟨?_, ?_⟩
  · simp only [gK, hA]
  · simp only [gN, hA]
theorem CP.a3 (h : CP B d n tp M0 f0 f T S l w g v M) : gK M (d + 3) = 10 ∧ gN M (d + 3) = 4 := by
  have hA : TmA d M.2.2 := h.2.2.2.1.2
  refine ⟨?_, ?_⟩
  · simp only [gK, hA]
  · simp only [gN, hA]
theorem CP.a4 (h : CP B d n tp M0 f0 f T S l w g v M) : gK M (d + 4) = 10 ∧ gN M (d + 4) = 4 := by
  have hA : TmA d M.2.2 := h.2.2.2.1.2
  refine ⟨?_, ?_⟩
  · simp only [gK, hA]
  · simp only [gN, hA]
theorem CP.a5 (h : CP B d n tp M0 f0 f T S l w g v M) : gK M (d + 5) = 10 ∧ gN M (d + 5) = 4 := by
  have hA : TmA d M.2.2 := h.2.2.2.1.2
  refine ⟨?_, ?_⟩
  · simp only [gK, hA]
  · simp only [gN, hA]
theorem CP.a6 (h : CP B d n tp M0 f0 f T S l w g v M) : gK M (d + 6) = 10 ∧ gN M (d + 6) = 4 := by
  have hA : TmA d M.2.2 := h.2.2.2.1.2
  refine ⟨?_, ?_⟩
  · simp only [gK, hA]
  · simp only [gN, hA]
theorem CP.a7 (h : CP B d n tp M0 f0 f T S l w g v M) : gK M (d + 7) = 10 ∧ gN M (d + 7) = 4 := by
  have hA : TmA d M.2.2 := h.2.2.2.1.2
  refine ⟨?_, ?_⟩
  · simp only [gK, hA]
  · simp only [gN, hA]
theorem CP.a8 (h : CP B d n tp M0 f0 f T S l w g v M) : gK M (d + 8) = 10 ∧ gN M (d + 8) = 4 := by
  have hA : TmA d M.2.2 := h.2.2.2.1.2
  refine ⟨?_, ?_⟩
  · simp only [gK, hA]
  · simp only [gN, hA]
theorem CP.a9 (h : CP B d n tp M0 f0 f T S l w g v M) : gK M (d + 9) = 10 ∧ gN M (d + 9) = 6 := by
  have hA : TmA d M.2.2 := h.2.2.2.1.2
  refine ⟨?_, ?_⟩
  · simp only [gK, hA]
  · simp only [gN, hA]
theorem CP.a10 (h : CP B d n tp M0 f0 f T S l w g v M) : gK M (d + 10) = 10 ∧ gN M (d + 10) = 6 := by
  have hA : TmA d M.2.2 := h.2.2.2.1.2
  refine ⟨?_, ?_⟩
  · simp only [gK, hA]
  · simp only [gN, hA]
theorem CP.a11 (h : CP B d n tp M0 f0 f T S l w g v M) : gK M (d + 11) = 10 ∧ gN M (d + 11) = 240 := by
  have hA : TmA d M.2.2 := h.2.2.2.1.2
  refine ⟨?_, ?_⟩
  · simp only [gK, hA]
  · simp only [gN, hA]
theorem CP.a12 (h : CP B d n tp M0 f0 f T S l w g v M) : gK M (d + 12) = 10 ∧ gN M (d + 12) = 40 := by
  have hA : TmA d M.2.2 := h.2.2.2.1.2
  refine ⟨?_, ?_⟩
  · simp only [gK, hA]
  · simp only [gN, hA]
theorem CP.a13 (h : CP B d n tp M0 f0 f T S l w g v M) : gK M (d + 13) = 10 ∧ gN M (d + 13) = 84 := by
  have hA : TmA d M.2.2 := h.2.2.2.1.2
  refine ⟨?_, ?_⟩
  · simp only [gK, hA]
  · simp only [gN, hA]
theorem sIc {a : Nat} (h : i < 2 ^ 31) : sI M a (nI i).toNatClampNeg u = sI M a i u := by rw [nI_clamp h]
theorem gIc {a : Nat} (h : i < 2 ^ 31) : gI M a (nI i).toNatClampNeg = gI M a i := by rw [nI_clamp h]
theorem CP.wr (h : CP B d n tp M0 f0 f T S l w g v M) (hq : 1 ≤ q ∧ q < 14) (hC : CD (sI M (d + q) i u).1 d T2 S2 l2 w2 g2 v2) (hW : DW T2 S2 l2 w2 g2 v2) : CP B d n tp M0 f0 f T2 S2 l2 w2 g2 v2 (sI M (d + q) i u) := by
  obtain ⟨h1, h2, h3, h4, h5, h6, h7⟩ := h
  have o : ∀ b, b ≠ d + q → (sI M (d + q) i u).1 b = M.1 b := fun b hb => sI_ne hb
  refine ⟨⟨h1.1, by rw [o _ (by omega)]; exact h1.2.1, h1.2.2.1, fun k hk => by rw [o _ (by omega)]; exact h1.2.2.2 k hk⟩, ?_, h3, h4, hC, hW, h7.tr ⟨rfl, fun b b1 b2 => o b (by omega), fun j hj => by rw [o _ (by omega)], fun j hj => by rw [o _ (by omega)]⟩⟩
  unfold TkC
  rw [o _ (by omega)]; exact h2
theorem CP.w0 (h : CP B d n tp M0 f0 f T S l w g v M) (hi : i < 2) (hC : CD (sI M d i u).1 d T2 S2 l2 w2 g2 v2) (hW : DW T2 S2 l2 w2 g2 v2) : CP B d n tp M0 f0 f T2 S2 l2 w2 g2 v2 (sI M d i u) := by
  obtain ⟨h1, h2, h3, h4, h5, h6, h7⟩ := h
  have o : ∀ b, b ≠ d → (sI M d i u).1 b = M.1 b := fun b hb => sI_ne hb
  refine ⟨⟨h1.1, by rw [o _ (by omega)]; exact h1.2.1, h1.2.2.1, fun k hk => by rw [o _ (by omega)]; exact h1.2.2.2 k hk⟩, ?_, h3, h4, hC, hW, h7.tr ⟨rfl, fun b b1 b2 => o b (by omega), fun j hj => by rw [o _ (by omega)], fun j hj => by rw [sI_oth (by omega)]⟩⟩
  unfold TkC
  rw [o _ (by omega)]; exact h2
theorem sI_nt {b a : Nat} (h : ¬ (b = a ∧ i = j)) : (sI M a j u).1 b i = M.1 b i := if_neg h
theorem CP.jk (h : CP B d n tp M0 f0 f T S l w g v M) (hq : 1 ≤ q ∧ q < 11) (hs : q = 1 ∧ l ≤ i ∧ (l < i ∨ w = 0) ∨ 2 ≤ q ∧ q < 9 ∧ l ≤ i ∧ (l < i ∨ w < q) ∨ q = 9 ∧ g ≤ i ∧ (g < i ∨ v = 0) ∨ q = 10 ∧ g ≤ i ∧ (g < i ∨ v < 2)) : CP B d n tp M0 f0 f T S l w g v (sI M (d + q) i u) :=
  h.wr (by omega) (h.2.2.2.2.1.junk (fun b j b1 b2 b3 => sI_nt b3) hq hs) h.2.2.2.2.2.1
theorem CP.kn (h : CP B d n tp M0 f0 f T S l w g v M) (hC : CD M.1 d T2 S2 l2 w2 g2 v2) (hW : DW T2 S2 l2 w2 g2 v2) : CP B d n tp M0 f0 f T2 S2 l2 w2 g2 v2 M := ⟨h.1, h.2.1, h.2.2.1, h.2.2.2.1, hC, hW, h.2.2.2.2.2.2⟩
theorem CP.namw (h : CP B d n tp M0 f0 f T S l 0 g v M) (hl : l < 4) (hx : nmO x) : CP B d n tp M0 f0 f (upN T (2 + l) x) S l 1 g v (sI M (d + 1) l (nI (vcN 6 x))) := by
  have a := h.jk (q := 1) (i := l) (u := nI (vcN 6 x)) (by omega) (by omega)
  exact a.kn (a.2.2.2.2.1.nam hl sI_hit) (h.2.2.2.2.2.1.nam hl hx)
theorem CP.fldk (h : CP B d n tp M0 f0 f T S l (j + 1) g v M) (hl : l < 4) (hj : j < 7) (hx : FR j x) (e : M.1 (d + (2 + j)) l = nI x) : CP B d n tp M0 f0 f (upN T (12 + 7 * l + j) x) S l (j + 2) g v M :=
  h.kn (h.2.2.2.2.1.fld h.2.2.2.2.2.1.2.2.2.1 hl hj e) (h.2.2.2.2.2.1.fld hl hj hx)
theorem CP.fldw (h : CP B d n tp M0 f0 f T S l (j + 1) g v M) (hl : l < 4) (hj : j < 7) (hx : FR j x) : CP B d n tp M0 f0 f (upN T (12 + 7 * l + j) x) S l (j + 2) g v (sI M (d + (2 + j)) l (nI x)) := by
  have a := h.jk (q := 2 + j) (i := l) (u := nI x) (by omega) (by omega)
  exact a.fldk hl hj hx sI_hit
theorem CP.lonw (h : CP B d n tp M0 f0 f T S l 8 g v M) (hl : l < 4) : CP B d n tp M0 f0 f (upN T 0 (l + 1)) (upN S (1207 + l) (l + 1)) (l + 1) 0 g v (sI M d 0 (nI (l + 1))) :=
  h.w0 (by omega) (h.2.2.2.2.1.lon h.2.2.2.2.2.1.2.2.2.1 hl sI_hit (sI_oth (by omega)) (fun b b1 b2 => sI_ne (by omega))) (h.2.2.2.2.2.1.lon hl)
theorem CP.hnmw (h : CP B d n tp M0 f0 f T S l 0 g 0 M) (hg : g < 6) (hx : nmO x) : CP B d n tp M0 f0 f (upN T (6 + g) x) S l 0 g 1 (sI M (d + 9) g (nI (vcN 6 x))) := by
  have a := h.jk (q := 9) (i := g) (u := nI (vcN 6 x)) (by omega) (by omega)
  exact a.kn (a.2.2.2.2.1.hnm h.2.2.2.2.2.1.b.1 hg sI_hit) (h.2.2.2.2.2.1.hnm hg hx)
theorem CP.cshw (h : CP B d n tp M0 f0 f T S l 0 g 1 M) (hg : g < 6) (hx : x ≤ 99999) : CP B d n tp M0 f0 f T (upN S (1200 + g) x) l 0 g 2 (sI M (d + 10) g (nI x)) := by
  have a := h.jk (q := 10) (i := g) (u := nI x) (by omega) (by omega)
  exact a.kn (a.2.2.2.2.1.csh hg sI_hit) (h.2.2.2.2.2.1.csh hg hx)
theorem CP.holw (h : CP B d n tp M0 f0 f T S l 0 g 2 M) (hg : g < 6) : CP B d n tp M0 f0 f (upN T 1 (g + 1)) S l 0 (g + 1) 0 (sI M d 1 (nI (g + 1))) :=
  h.w0 (by omega) (h.2.2.2.2.1.hol hg (sI_oth (by omega)) sI_hit (fun b b1 b2 => sI_ne (by omega))) (h.2.2.2.2.2.1.hol hg)
theorem c_fld {β : Type} {k : Nat → Nat → Ou} {kc : Int32 → Mm → Option (β × Mm)} {Ψ : Ou → β → Mm → Prop} (j lo hi : Nat) (hj : j < 7) (hlo : frL.getD j 0 ≤ lo) (hhi : hi ≤ frH.getD j 0) (ho : lo < 2 ^ 30) (hh : hi < 2 ^ 30) (h : CP B d n tp M0 f0 f T S l (j + 1) g v M) (hl : l < 4) (ha : gK M (d + (2 + j)) = 10 ∧ gN M (d + (2 + j)) = 4) (h0 : ∀ e N, Fc B d M0 e N → Ok (kc (nI 0) N) (Ψ (.inl e))) (h1 : ∀ x N, CP B d n tp M0 f0 (nxT n tp f) (upN T (12 + 7 * l + j) x) S l (j + 2) g v N → Ok (kc (nI 1) N) (Ψ (k x (nxT n tp f)))) : Ok (bd (f_X3_number (B + 28) (d + (2 + j)) (nI l) (nI lo) (nI hi) M) kc) (Ψ (oN n tp lo hi f k)) :=
  c_number (T2 := fun x => upN T (12 + 7 * l + j) x) (S2 := fun _ => S) (d + (2 + j)) l lo hi 4 ho hh h ha hl (by omega) (fun x b1 b2 => h.fldw hl hj ⟨Nat.le_trans hlo b1, Nat.le_trans b2 hhi⟩) h0 (fun x N _ _ q => h1 x N q)
theorem upN_2 {y : Nat} : upN (upN T q x) q y = upN T q y := by
  funext k
  show (if k = q then y else (if k = q then x else T k)) = (if k = q then y else T k)
  split <;> rfl
theorem c_readPlan {β : Type} {k : Nat → Td → Ou} {kc : Int32 → Mm → Option (β × Mm)} {Ψ : Ou → β → Mm → Prop} (h : CP B d n tp M0 f0 f T S l 5 g v M) (hl : l < 4) (h0 : ∀ e N, Fc B d M0 e N → Ok (kc (nI 0) N) (Ψ (.inl e))) (h1 : ∀ f T N, CP B d n tp M0 f0 f T S l 7 g v N → Ok (kc (nI 1) N) (Ψ (k f T))) : Ok (bd (f_X3_readPlan (B + 28) (nI l) M) kc) (Ψ (pPlan n tp (12 + 7 * l) f T k)) := by
  have i7 : gK M (d + 7) = 10 ∧ inb (nI l) (gN M (d + 7)) := ⟨h.a7.1, by rw [h.a7.2]; exact nI_in hl (by omega)⟩
  have hz := h.jk (q := 7) (i := l) (u := (0 : Int32)) (by omega) (by omega)
  have zz : (sI M (d + 7) l (0 : Int32)).1 (d + 7) l = nI 0 := sI_hit
  rw [f_X3_readPlan, ck_t h.k3, h.r3, bR_s, ck_t h.k6, h.r11, bR_s, ck_t i7, nm_s, sIc (by omega)]
  generalize hM2 : sI M (d + 7) l (0 : Int32) = M2 at hz zz ⊢
  have i6 : gK M2 (d + 6) = 10 ∧ inb (nI l) (gN M2 (d + 6)) := ⟨hz.a6.1, by rw [hz.a6.2]; exact nI_in hl (by omega)⟩
  have s5 := c_s5 hz.1 hz.2.1 hz.2.2.1.2.1
  rw [ck_t hz.k3, c_s7 hz.1 hz.2.1 hz.2.2.1.2.1, bd_s, pPlan]
  have p71 : ∀ y, y ≤ 2 → CP B d n tp M0 f0 f (upN (upN T (12 + 7 * l + 4) y) (12 + 7 * l + 5) 0) S l 7 g v (sI M2 (d + 6) l (nI y)) := fun y hy => by
    have a : CP B d n tp M0 f0 f (upN T (12 + 7 * l + 4) y) S l 6 g v (sI M2 (d + 6) l (nI y)) := hz.fldw (j := 4) (x := y) hl (by omega) ⟨Nat.zero_le _, hy⟩
    exact a.fldk (j := 5) (x := 0) hl (by omega) ⟨Nat.zero_le _, Nat.zero_le _⟩ (by
      show (sI M2 (d + 6) l (nI y)).1 (d + 7) l = nI 0
      rw [sI_ne (by omega)]; exact zz)
  by_cases e7 : wdT n tp f = 632267
  · have e5 : ¬ wdT n tp f = 186542 := by omega
    have a : CP B d n tp M0 f0 f (upN T (12 + 7 * l + 4) 1) S l 6 g v (sI M2 (d + 6) l (1 : Int32)) := hz.fldw (j := 4) (x := 1) hl (by omega) ⟨Nat.zero_le _, (by decide : 1 ≤ 2)⟩
    rw [if_neg e5, if_pos e7, if_pos e7, if_neg (by decide), ck_t hz.k3, hz.r3, bR_s, ck_t hz.k6, hz.r10, bR_s, ck_t i6, nm_s, sIc (by omega), ck_t a.k3, Ok_bd]
    refine c_adv2 a (wd_k (by omega)) (fun N b => ?_)
    rw [ck_t b.k3, b.r3, bR_s, ck_t b.k6, b.r11, bR_s, ck_t b.k3]
    refine c_fld (k := fun x f => k f (upN (upN T (12 + 7 * l + 4) 1) (12 + 7 * l + 5) x)) (Ψ := fun o x M => Ok (kc x M) (Ψ o)) 5 1 99999 (by omega) (by decide) (by decide) (by omega) (by omega) b hl b.a7 (fun e N q => ?_) (fun x N q => ?_)
    · exact ok_01 (Or.inl rfl) (h0 e N q)
    · exact ok_01 (Or.inr rfl) (h1 _ _ N q)
  · rw [if_neg e7, if_neg e7, if_pos (by decide), ck_t hz.k3, hz.r3, bR_s, ck_t hz.k6, hz.r10, bR_s, ck_t hz.k3, s5, bd_s]
    by_cases e5 : wdT n tp f = 186542
    · have a : CP B d n tp M0 f0 f (upN (upN T (12 + 7 * l + 4) 0) (12 + 7 * l + 5) 0) S l 7 g v (sI M2 (d + 6) l (0 : Int32)) := p71 0 (by omega)
      rw [if_pos e5, if_pos e5, if_neg (by decide), f_X3_readPlan_71, ck_t i6, nm_s, sIc (by omega), ck_t a.k3, c_s5 a.1 a.2.1 a.2.2.1.2.1, bd_s, if_pos e5, if_neg (by decide), ck_t a.k3, Ok_bd]
      have := c_word (k := fun f => k f (upN (upN T (12 + 7 * l + 4) 0) (12 + 7 * l + 5) 0)) (kc := fun v8 M7 => ck (v8 = 0 ∨ v8 = 1) (some (v8, M7))) (Ψ := fun o x M => Ok (kc x M) (Ψ o)) 5 186542 (by omega) rfl a (fun e N q => ok_01 (Or.inl rfl) (h0 e N q)) (fun N q => ok_01 (Or.inr rfl) (h1 _ _ N q))
      rw [oW, if_pos e5] at this
      exact this
    · have a : CP B d n tp M0 f0 f (upN (upN T (12 + 7 * l + 4) 2) (12 + 7 * l + 5) 0) S l 7 g v (sI M2 (d + 6) l (2 : Int32)) := p71 2 (by omega)
      rw [if_neg e5, if_neg e5, if_pos (by decide), f_X3_readPlan_71, ck_t i6, nm_s, sIc (by omega), ck_t a.k3, c_s5 a.1 a.2.1 a.2.2.1.2.1, bd_s, if_neg e5, if_pos (by decide), ck_t a.k3, Ok_bd]
      exact c_word (k := fun f => k f (upN (upN T (12 + 7 * l + 4) 2) (12 + 7 * l + 5) 0)) (kc := fun v8 M7 => ck (v8 = 0 ∨ v8 = 1) (some (v8, M7))) (Ψ := fun o x M => Ok (kc x M) (Ψ o)) 6 5572 (by omega) rfl a (fun e N q => ok_01 (Or.inl rfl) (h0 e N q)) (fun N q => ok_01 (Or.inr rfl) (h1 _ _ N q))
theorem c_readLapse {β : Type} {k : Nat → Td → Ou} {kc : Int32 → Mm → Option (β × Mm)} {Ψ : Ou → β → Mm → Prop} (h : CP B d n tp M0 f0 f T S l 7 g v M) (hl : l < 4) (h0 : ∀ e N, Fc B d M0 e N → Ok (kc (nI 0) N) (Ψ (.inl e))) (h1 : ∀ f T N, CP B d n tp M0 f0 f T S l 8 g v N → Ok (kc (nI 1) N) (Ψ (k f T))) : Ok (bd (f_X3_readLapse (B + 28) (nI l) M) kc) (Ψ (pLapse n tp (12 + 7 * l) f T k)) := by
  have i8 : gK M (d + 8) = 10 ∧ inb (nI l) (gN M (d + 8)) := ⟨h.a8.1, by rw [h.a8.2]; exact nI_in hl (by omega)⟩
  have hz := h.jk (q := 8) (i := l) (u := (20 : Int32)) (by omega) (by omega)
  have zz : (sI M (d + 8) l (20 : Int32)).1 (d + 8) l = nI 20 := sI_hit
  rw [f_X3_readLapse, ck_t h.k3, h.r3, bR_s, ck_t h.k6, h.r12, bR_s, ck_t i8, nm_s, sIc (by omega), ck_t hz.k3, c_s8 hz.1 hz.2.1 hz.2.2.1.2.1, bd_s, pLapse]
  by_cases e8 : wdT n tp f = 12632677
  · rw [if_pos e8, if_pos e8, if_pos (by decide), ck_t hz.k3, Ok_bd]
    refine c_adv2 hz (wd_k (by omega)) (fun N b => ?_)
    rw [ck_t b.k3, b.r3, bR_s, ck_t b.k6, b.r12, bR_s, ck_t b.k3]
    refine c_fld (k := fun x f => k f (upN T (12 + 7 * l + 6) x)) (Ψ := fun o x M => Ok (kc x M) (Ψ o)) 6 1 20 (by omega) (by decide) (by decide) (by omega) (by omega) b hl b.a8 (fun e N q => ?_) (fun x N q => ?_)
    · exact ok_01 (Or.inl rfl) (h0 e N q)
    · exact ok_01 (Or.inr rfl) (h1 _ _ N q)
  · rw [if_neg e8, if_neg e8, if_neg (by decide), bd_s]
    exact h1 _ _ _ (hz.fldk (j := 6) (x := 20) hl (by omega) ⟨by decide, by decide⟩ zz)

theorem c_readLoan {k : Nat → Td → Td → Ou} {Ψ : Ou → Int32 → Mm → Prop} (h : CP B d n tp M0 f0 f T S l 0 g 0 M) (hk : wdT n tp f ≠ 0) (h0 : ∀ e N, Fc B d M0 e N → Ψ (.inl e) (nI 0) N) (h1 : ∀ f T S N, f0 < f → CP B d n tp M0 f0 f T S (l + 1) 0 g 0 N → Ψ (k f T S) (nI 1) N) : Ok (f_X3_readLoan (B + 28) M) (Ψ (pLoan n tp f T S l g (fun f T S => oS n tp f (fun f => k f T S)))) := by
  have hb := h.2.2.2.2.2.1.b
  have e0 : gI M d 0 = nI l := h.2.2.2.2.1.1
  have z : ∀ e N, Fc B d M0 e N → Ok (f_X3_readLoan_175 (B + 28) 0 N) (Ψ (.inl e)) := fun e N q => by
    rw [f_X3_readLoan_175, if_pos rfl]; exact ok_01 (Or.inl rfl) (h0 e N q)
  rw [f_X3_readLoan, ck_t h.k3, h.r3, bR_s, ck_t h.k6, nm_s, e0, pLoan]
  by_cases e4 : l = 4
  · rw [if_pos e4, if_neg (by rw [show (4 : Int32) = nI 4 from rfl, nI_ltI (by omega) (by omega)]; omega), ck_t h.k3]
    exact c_ref 5 h (fun N q => ok_01 (Or.inl rfl) (h0 _ N q))
  have hl : l < 4 := by omega
  rw [if_neg e4, if_pos (by rw [show (4 : Int32) = nI 4 from rfl, nI_ltI (by omega) (by omega)]; omega), ck_t h.k3]
  refine c_adv2 h (wd_k hk) (fun N h => ?_)
  rw [ck_t h.k3, h.r3, bR_s, ck_t h.k6, h.r5, bR_s, ck_t h.k3]
  refine c_newName (T2 := fun x => upN T (2 + l) x) (d + 1) l 4 h h.a1 hl (by omega) (fun x hx => h.namw hl hx) (fun e N q => ?_) (fun x N h => ?_)
  · rw [if_pos (by decide)]; exact z e N q
  rw [if_neg (by decide), ck_t h.k3]
  refine c_word 1 2603155 (by omega) rfl h (fun e N q => ?_) (fun N h => ?_)
  · rw [if_pos (by decide)]; exact z e N q
  rw [if_neg (by decide), ck_t h.k3, h.r3, bR_s, ck_t h.k6, h.r6, bR_s, ck_t h.k3]
  refine c_fld 0 1 60 (by omega) (by decide) (by decide) (by omega) (by omega) h hl h.a2 (fun e N q => ?_) (fun x0 N h => ?_)
  · rw [if_pos (by decide)]; exact z e N q
  rw [if_neg (by decide), ck_t h.k3]
  refine c_word 2 16434 (by omega) rfl h (fun e N q => ?_) (fun N h => ?_)
  · rw [if_pos (by decide)]; exact z e N q
  rw [if_neg (by decide), ck_t h.k3, h.r3, bR_s, ck_t h.k6, h.r7, bR_s, ck_t h.k3]
  refine c_fld 1 1 999 (by omega) (by decide) (by decide) (by omega) (by omega) h hl h.a3 (fun e N q => ?_) (fun x1 N h => ?_)
  · rw [if_pos (by decide)]; exact z e N q
  rw [if_neg (by decide), ck_t h.k3]
  refine c_word 3 117096942 (by omega) rfl h (fun e N q => ?_) (fun N h => ?_)
  · rw [if_pos (by decide)]; exact z e N q
  rw [if_neg (by decide), ck_t h.k3, h.r3, bR_s, ck_t h.k6, h.r8, bR_s, ck_t h.k3]
  refine c_fld 2 0 99 (by omega) (by decide) (by decide) (by omega) (by omega) h hl h.a4 (fun e N q => ?_) (fun x2 N h => ?_)
  · rw [if_pos (by decide)]; exact z e N q
  rw [if_neg (by decide), ck_t h.k3]
  refine c_word 4 26379859 (by omega) rfl h (fun e N q => ?_) (fun N h => ?_)
  · rw [if_pos (by decide)]; exact z e N q
  rw [if_neg (by decide), ck_t h.k3, h.r3, bR_s, ck_t h.k6, h.r9, bR_s, ck_t h.k3]
  refine c_fld 3 1 20 (by omega) (by decide) (by decide) (by omega) (by omega) h hl h.a5 (fun e N q => ?_) (fun x3 N h => ?_)
  · rw [if_pos (by decide)]; exact z e N q
  rw [if_neg (by decide), ck_t h.k3]
  refine c_readPlan h hl (fun e N q => ?_) (fun f T N h => ?_)
  · rw [if_pos (by decide)]; exact z e N q
  rw [if_neg (by decide), ck_t h.k3]
  refine c_readLapse h hl (fun e N q => ?_) (fun f T N h => ?_)
  · rw [if_pos (by decide)]; exact z e N q
  rw [if_neg (by decide), ck_t h.k3]
  have lo := h.2.2.1.1
  refine c_sign h (fun e N q => ?_) (fun N lt h => ?_)
  · rw [if_pos (by decide)]; exact z e N q
  have e0 : gI N d 0 = nI l := h.2.2.2.2.1.1
  have fin := h.lonw hl
  rw [if_neg (by decide), f_X3_readLoan_175, if_neg (by decide), ck_t h.k3, h.r3, bR_s, ck_t h.k6, ck_t h.k6, nm_s, e0, nI_1]
  exact ok_01 (Or.inr rfl) (h1 _ _ _ _ (by omega) fin)
theorem c_readHolder {k : Nat → Td → Td → Ou} {Ψ : Ou → Int32 → Mm → Prop} (h : CP B d n tp M0 f0 f T S l 0 g 0 M) (hk : wdT n tp f ≠ 0) (h0 : ∀ e N, Fc B d M0 e N → Ψ (.inl e) (nI 0) N) (h1 : ∀ f T S N, f0 < f → CP B d n tp M0 f0 f T S l 0 (g + 1) 0 N → Ψ (k f T S) (nI 1) N) : Ok (f_X3_readHolder (B + 28) M) (Ψ (pHolder n tp f T S l g (fun f T S => oS n tp f (fun f => k f T S)))) := by
  have hb := h.2.2.2.2.2.1.b
  have e0 : gI M d 1 = nI g := h.2.2.2.2.1.2.1
  have z : ∀ e N, Fc B d M0 e N → Ok (f_X3_readHolder_78 (B + 28) 0 N) (Ψ (.inl e)) := fun e N q => by
    rw [f_X3_readHolder_78, if_pos rfl]; exact ok_01 (Or.inl rfl) (h0 e N q)
  rw [f_X3_readHolder, ck_t h.k3, h.r3, bR_s, ck_t h.k6, nm_s, e0, pHolder]
  by_cases e4 : g = 6
  · rw [if_pos e4, if_neg (by rw [show (6 : Int32) = nI 6 from rfl, nI_ltI (by omega) (by omega)]; omega), ck_t h.k3]
    exact c_ref 5 h (fun N q => ok_01 (Or.inl rfl) (h0 _ N q))
  have hg : g < 6 := by omega
  rw [if_neg e4, if_pos (by rw [show (6 : Int32) = nI 6 from rfl, nI_ltI (by omega) (by omega)]; omega), ck_t h.k3]
  refine c_adv2 h (wd_k hk) (fun N h => ?_)
  rw [ck_t h.k3, h.r3, bR_s, ck_t h.k6, h.r13, bR_s, ck_t h.k3]
  refine c_newName (T2 := fun x => upN T (6 + g) x) (d + 9) g 6 h h.a9 hg (by omega) (fun x hx => h.hnmw hg hx) (fun e N q => ?_) (fun x N h => ?_)
  · rw [if_pos (by decide)]; exact z e N q
  rw [if_neg (by decide), ck_t h.k3]
  refine c_word 10 99944 (by omega) rfl h (fun e N q => ?_) (fun N h => ?_)
  · rw [if_pos (by decide)]; exact z e N q
  rw [if_neg (by decide), ck_t h.k3, h.r3, bR_s, ck_t h.k6, h.r14, bR_s, ck_t h.k3]
  refine c_number (T2 := fun _ => upN T (6 + g) x) (S2 := fun y => upN S (1200 + g) y) (d + 10) g 0 99999 6 (by omega) (by omega) h h.a10 hg (by omega) (fun y _ b2 => h.cshw hg b2) (fun e N q => ?_) (fun y N _ _ h => ?_)
  · rw [if_pos (by decide)]; exact z e N q
  rw [if_neg (by decide), ck_t h.k3]
  have lo := h.2.2.1.1
  refine c_sign h (fun e N q => ?_) (fun N lt h => ?_)
  · rw [if_pos (by decide)]; exact z e N q
  have e0 : gI N d 1 = nI g := h.2.2.2.2.1.2.1
  have fin := h.holw hg
  rw [if_neg (by decide), f_X3_readHolder_78, if_neg (by decide), ck_t h.k3, h.r3, bR_s, ck_t h.k6, ck_t h.k6, nm_s, e0, nI_1]
  exact ok_01 (Or.inr rfl) (h1 _ _ _ _ (by omega) fin)
end TY7
