/-! text: numbers held, prizes, prices: the reference -/
def KrL (B : Nat) (P Q : Mm) : Prop := Q.2 = P.2 ∧ (∀ b, b ≠ B + 59 → b ≠ B + 62 → b ≠ B + 64 → Q.1 b = P.1 b) ∧ ∀ j, (j < 4 ∨ 10 < j ∧ j ≠ 13 ∧ j ≠ 14 ∧ j ≠ 15) → Q.1 (B + 59) j = P.1 (B + 59) j
def FrL (B : Nat) (P : Mm) (e : Nat) (Q : Mm) : Prop := Q.1 (B + 59) 9 = nI e ∧ KrL B P Q
def LnR (B n : Nat) (tp : Td) (f : Nat) (T S : Td) (l g hh pz pc : Nat) (P : Mm) : Prop := RP B n tp P f f T S l 0 g 0 P ∧ P.1 (B + 59) 13 = nI hh ∧ P.1 (B + 59) 14 = nI pz ∧ P.1 (B + 59) 15 = nI pc ∧ hh ≤ 20 ∧ pz ≤ 12 ∧ pc ≤ 24
section TZ1
variable {B d n f0 f l w g v i x c lo hi w2 v2 l2 g2 nn j q hh pz pc y : Nat} {tp T S T2 S2 : Td} {M0 M N P0 P Q R : Mm} {u : Int32}
theorem Kr.L (h : Kr B P Q) : KrL B P Q := ⟨h.1, h.2.1, fun j hj => h.2.2 j (by omega)⟩
theorem KrL.tr (h : KrL B P Q) (k : KrL B Q R) : KrL B P R := ⟨k.1.trans h.1, fun b h1 h2 h3 => (k.2.1 b h1 h2 h3).trans (h.2.1 b h1 h2 h3), fun j hj => (k.2.2 j hj).trans (h.2.2 j hj)⟩
theorem Fr.L {e : Nat} (k : Fr B P e Q) : FrL B P e Q := ⟨k.1, k.2.L⟩
theorem RP.reb (h : RP B n tp P0 f0 f T S l w g v P) : RP B n tp P f f T S l w g v P := ⟨h.1, h.2.1, ⟨Nat.le_refl _, h.2.2.1.2⟩, h.2.2.2.1, h.2.2.2.2.1, h.2.2.2.2.2.1, h.2.2.2.2.2.2.1, Kr.rf⟩
theorem RP.cnt (h : RP B n tp P0 f0 f T S l w g v P) (hi : 10 < i) : RP B n tp (sI P (B + 59) i u) f f T S l w g v (sI P (B + 59) i u) := by
  obtain ⟨h1, h2, h3, h4, h5, h6, h7, h8⟩ := h
  exact ⟨h1.sI (by omega), ⟨by rw [sI_oth (by omega)]; exact h2.1, by rw [sI_oth (by omega)]; exact h2.2.1, by rw [sI_oth (by omega)]; exact h2.2.2.1, by rw [sI_oth (by omega)]; exact h2.2.2.2.1, by rw [sI_oth (by omega)]; exact h2.2.2.2.2⟩, ⟨Nat.le_refl _, h3.2⟩, by rw [sI_ne (by omega)]; exact h4, by rw [sI_ne (by omega)]; exact h5, by rw [sI_oth (by omega)]; exact h6, h7, Kr.rf⟩
theorem KrL.cnt (hi : i = 13 ∨ i = 14 ∨ i = 15) : KrL B P (sI P (B + 59) i u) := ⟨rfl, fun b b1 b2 b3 => sI_ne b1, fun j hj => sI_oth (by omega)⟩
theorem le0 {s : Nat} (h : s < 2 ^ 31) : (nI s ≤ 0) = (s = 0) := by
  rw [show (0 : Int32) = nI 0 from rfl, nI_leI h (by omega)]
  exact propext ⟨fun q => by omega, fun q => by omega⟩
theorem eh {c : Nat} : (240 : Int32) + (60 : Int32) * nI j + nI (c + 1) - (1 : Int32) = nI (240 + (60 * j + c)) := by
  rw [show (60 : Int32) = nI 60 from rfl, pk_mul, show (240 : Int32) = nI 240 from rfl, nI_add, nI_add, show (1 : Int32) = nI 1 from rfl, pk_sub (by omega)]
  congr 1
  omega
theorem r_103 (h : RP B n tp P0 f0 f T S l w g v P) (hj : j < 4) (a : Nat) : ∀ (e c m : Nat), c + e ≤ 60 → e < m → f_X8_holdsLine_103 m (B + 59) (nI y) (nI j) (nI a) (nI (c + e)) (nI (c + 1)) P = if anyB S e (60 * j + c) = true then (bd (f_X8_bad (B + 59) (2 : Int32) P) fun v4 M3 => ck (v4 = 0 ∨ v4 = 1) (some (v4, M3))) else f_X8_holdsLine_147 FU (B + 59) (nI y) (nI j) (nI (c + e)) (nI a) P := by
  have hb := h.2.2.2.2.2.2.1.b
  intro e
  induction e with
  | zero =>
    intro c m hc hm
    obtain ⟨m, rfl⟩ : ∃ q, m = q + 1 := ⟨m - 1, by omega⟩
    rw [f_X8_holdsLine_103, if_pos (by rw [nI_ltI (by omega) (by omega)]; omega), if_neg (show ¬ anyB S 0 (60 * j + c) = true from fun q => Bool.noConfusion q)]
  | succ e ih =>
    intro c m hc hm
    obtain ⟨m, rfl⟩ : ∃ q, m = q + 1 := ⟨m - 1, by omega⟩
    have s6 := h.2.2.2.2.2.2.1.2.2.2.2.2.2.2.2.1 (60 * j + c) (by omega)
    have ow : gI P (B + 64) (240 + (60 * j + c)) = nI (S (240 + (60 * j + c))) := h.2.2.2.2.1 (240 + (60 * j + c)) (by omega)
    rw [f_X8_holdsLine_103, if_neg (by rw [nI_ltI (by omega) (by omega)]; omega), ck_t h.k8, h.r18, bR_s, eh, ck_t (h.i64 (by omega)), gIc (by omega), ow]
    by_cases z : S (240 + (60 * j + c)) = 0
    · have ez : anyB S (e + 1) (60 * j + c) = anyB S e (60 * j + c + 1) := if_pos z
      rw [if_pos (by rw [le0 (by omega)]; exact z), nI_1, ez, show c + (e + 1) = c + 1 + e by omega]
      exact ih (c + 1) m (by omega) (by omega)
    · have ez : anyB S (e + 1) (60 * j + c) = true := if_neg z
      rw [if_neg (by rw [le0 (by omega)]; exact z), ck_t h.k8, if_pos ez]
theorem r_147 (hj : j < 4) (hx : y + 1 ≤ g) : ∀ (e c m : Nat) (S : Td) (P : Mm), RP B n tp P0 f0 f T S l 0 g 0 P → c + e ≤ 60 → e < m → ∃ Q, f_X8_holdsLine_147 m (B + 59) (nI y) (nI j) (nI (c + e)) (nI (c + 1)) P = (bd (f_X8_go (B + 59) Q) fun _ M1 => ck (gK M1 (B + 59) = 8) (ck (gK M1 (B + 59) = 8) (nm (sI M1 (B + 59) 13 ((gI M1 (B + 59) 13) + (1 : Int32))) fun M2 => some ((1 : Int32), M2)))) ∧ RP B n tp P0 f0 f T (hldB (y + 1) e (60 * j + c) S) l 0 g 0 Q := by
  intro e
  induction e with
  | zero =>
    intro c m S P h hc hm
    obtain ⟨m, rfl⟩ : ∃ q, m = q + 1 := ⟨m - 1, by omega⟩
    exact ⟨P, by rw [f_X8_holdsLine_147, if_pos (by rw [nI_ltI (by omega) (by omega)]; omega), ck_t h.k8], h⟩
  | succ e ih =>
    intro c m S P h hc hm
    obtain ⟨m, rfl⟩ : ∃ q, m = q + 1 := ⟨m - 1, by omega⟩
    have h2 := h.wS (q := 240 + (60 * j + c)) (y := y + 1) (by omega) (h.2.2.2.2.2.2.1.hld (q := 60 * j + c) (by omega) hx)
    obtain ⟨N, q1, q2⟩ := ih (c + 1) m _ _ h2 (by omega) (by omega)
    refine ⟨N, ?_, q2⟩
    rw [f_X8_holdsLine_147, if_neg (by rw [nI_ltI (by omega) (by omega)]; omega), ck_t h.k8, h.r18, bR_s, eh, ck_t (h.i64 (by omega)), nm_s, sIc (by omega), nI_1, nI_1, show c + (e + 1) = c + 1 + e by omega]
    exact q1
theorem RP.sl (h : RP B n tp P0 f0 f T S l w g v P) (hj : 10 < j) : gI P (B + 59) j = P0.1 (B + 59) j := h.2.2.2.2.2.2.2.2.2 j (Or.inr hj)
theorem r_holdsLine {k : Nat → Td → Td → Ou} {Ψ : Ou → Int32 → Mm → Prop} (h : LnR B n tp f T S l g hh pz pc P) (h0 : ∀ e Q, FrL B P e Q → Ψ (.inl e) (nI 0) Q) (h1 : ∀ f2 T S Q, f ≤ f2 → LnR B n tp f2 T S l g (hh + 1) pz pc Q → KrL B P Q → Ψ (k f2 T S) (nI 1) Q) : Ok (f_X8_holdsLine (B + 59) P) (Ψ (pHolds n tp f T S l g hh k)) := by
  obtain ⟨h, b2, b3, b4, c2, c3, c4⟩ := h
  have dw := h.2.2.2.2.2.2.1
  have hb := dw.b
  have z : ∀ e Q, Fr B P e Q → Ψ (.inl e) (nI 0) Q := fun e Q q => h0 e Q q.L
  have e2 : gI P (B + 59) 13 = nI hh := b2
  rw [f_X8_holdsLine, ck_t h.k8, e2, pHolds]
  by_cases e20 : hh = 20
  · rw [if_pos e20, if_neg (not_not_intro (show nI hh = (20 : Int32) by rw [e20]; rfl)), ck_t h.k8]
    exact r_bad 5 h (fun N q => ok_01 (Or.inl rfl) (z _ N q))
  rw [if_neg e20, if_pos (by rw [show (20 : Int32) = nI 20 from rfl, nI_eq (by omega) (by omega)]; exact e20), ck_t h.k8]
  refine r_go2 h (fun Q h _ => ?_)
  rw [ck_t h.k8]
  refine r_known 1 6 g (Or.inr ⟨rfl, rfl, rfl⟩) h (fun e Q q => ?_) (fun y Q hy e10 h => ?_)
  · rw [if_neg (by decide)]; exact Ok_some.mpr (z e Q q)
  rw [if_pos (by decide), ck_t h.k8, nm_s, e10, ck_t h.k8]
  refine r_known 0 2 l (Or.inl ⟨rfl, rfl, rfl⟩) h (fun e Q q => ?_) (fun j Q hj e10 h => ?_)
  · rw [if_neg (by decide)]; exact Ok_some.mpr (z e Q q)
  have fr := dw.2.2.2.2.2.1 j 0 (by omega) (Or.inl hj)
  have t1 : 1 ≤ T (12 + 7 * j + 0) := fr.1
  have t2 : T (12 + 7 * j + 0) ≤ 60 := fr.2
  have e12 : (12 : Int32) + (7 : Int32) * nI j + (0 : Int32) = nI (12 + 7 * j + 0) := by
    rw [show (7 : Int32) = nI 7 from rfl, pk_mul, show (12 : Int32) = nI 12 from rfl, nI_add]; exact nI_add _ _
  have eT : gI Q (B + 62) (12 + 7 * j + 0) = nI (T (12 + 7 * j + 0)) := h.2.2.2.1 (12 + 7 * j + 0) (by omega)
  rw [if_pos (by decide), ck_t h.k8, nm_s, e10, ck_t h.k8, h.r12, bR_s, e12, ck_t (h.i62 (by omega)), nm_s, gIc (by omega), eT, ck_t h.k8]
  refine r_number 1 (T (12 + 7 * j + 0)) (by omega) (by omega) h (fun e Q q => ?_) (fun a Q a1 a2 e10 h => ?_)
  · rw [if_neg (by decide)]; exact Ok_some.mpr (z e Q q)
  rw [if_pos (by decide), ck_t h.k8, nm_s, e10, ck_t h.k8]
  refine r_numberAt a (T (12 + 7 * j + 0)) (by omega) (by omega) h (fun e Q q => ?_) (fun b eb kb vb d1 d2 => ?_)
  · rw [if_neg (by decide)]; exact Ok_some.mpr (z e Q q)
  have any := r_103 (y := y) h (show j < 4 by omega) a (b + 1 - a) (a - 1) FU (by omega) (by unfold FU; omega)
  rw [show a - 1 + (b + 1 - a) = b by omega, show a - 1 + 1 = a by omega] at any
  rw [if_pos (by decide), ck_t h.k8, nm_s, vb, any]
  by_cases w : anyB S (b + 1 - a) (60 * j + (a - 1)) = true
  · rw [if_pos w, if_pos w]
    exact r_bad 2 h (fun N q => ok_01 (Or.inl rfl) (z _ N q))
  obtain ⟨R, r1, r2⟩ := r_147 (show j < 4 by omega) (show y + 1 ≤ g by omega) (b + 1 - a) (a - 1) FU S Q h (by omega) (by unfold FU; omega)
  rw [show a - 1 + (b + 1 - a) = b by omega, show a - 1 + 1 = a by omega] at r1
  rw [if_neg w, if_neg w, r1]
  refine r_go2 r2 (fun Q h _ => ?_)
  have e13 : gI Q (B + 59) 13 = nI hh := by rw [h.sl (by omega)]; exact b2
  rw [ck_t h.k8, ck_t h.k8, nm_s, e13, nI_1]
  refine Ok_some.mpr (h1 _ _ _ _ h.2.2.1.1 ⟨h.cnt (by omega), sI_hit, ?_, ?_, by omega, c3, c4⟩ (h.2.2.2.2.2.2.2.L.tr (KrL.cnt (Or.inl rfl))))
  · rw [sI_oth (by omega)]; exact (h.sl (by omega)).trans b3
  · rw [sI_oth (by omega)]; exact (h.sl (by omega)).trans b4
theorem r_prizeLine {k : Nat → Td → Td → Ou} {Ψ : Ou → Int32 → Mm → Prop} (h : LnR B n tp f T S l g hh pz pc P) (h0 : ∀ e Q, FrL B P e Q → Ψ (.inl e) (nI 0) Q) (h1 : ∀ f2 T S Q, f ≤ f2 → LnR B n tp f2 T S l g hh (pz + 1) pc Q → KrL B P Q → Ψ (k f2 T S) (nI 1) Q) : Ok (f_X8_prizeLine (B + 59) P) (Ψ (pPrize n tp f T S l pz k)) := by
  obtain ⟨h, b2, b3, b4, c2, c3, c4⟩ := h
  have dw := h.2.2.2.2.2.2.1
  have hb := dw.b
  have z : ∀ e Q, Fr B P e Q → Ψ (.inl e) (nI 0) Q := fun e Q q => h0 e Q q.L
  have e2 : gI P (B + 59) 14 = nI pz := b3
  rw [f_X8_prizeLine, ck_t h.k8, e2, pPrize]
  by_cases e20 : pz = 12
  · rw [if_pos e20, if_neg (not_not_intro (show nI pz = (12 : Int32) by rw [e20]; rfl)), ck_t h.k8]
    exact r_bad 5 h (fun N q => ok_01 (Or.inl rfl) (z _ N q))
  rw [if_neg e20, if_pos (by rw [show (12 : Int32) = nI 12 from rfl, nI_eq (by omega) (by omega)]; exact e20), ck_t h.k8]
  refine r_go2 h (fun Q h _ => ?_)
  rw [ck_t h.k8]
  refine r_known 0 2 l (Or.inl ⟨rfl, rfl, rfl⟩) h (fun e Q q => ?_) (fun j Q hj e10 h => ?_)
  · rw [if_neg (by decide)]; exact Ok_some.mpr (z e Q q)
  rw [if_pos (by decide), ck_t h.k8, nm_s, e10, ck_t h.k8]
  refine r_numberAt 1 9 (by omega) (by omega) h (fun e Q q => ?_) (fun r er kr vr r1 r2 => ?_)
  · rw [if_neg (by decide)]; exact Ok_some.mpr (z e Q q)
  have e40 : (40 : Int32) + (10 : Int32) * nI j + nI r = nI (40 + (10 * j + r)) := by
    rw [show (10 : Int32) = nI 10 from rfl, pk_mul, show (40 : Int32) = nI 40 from rfl, nI_add, nI_add, Nat.add_assoc]
  have eT : gI Q (B + 62) (40 + (10 * j + r)) = nI (T (40 + (10 * j + r))) := h.2.2.2.1 (40 + (10 * j + r)) (by omega)
  have tb := dw.2.2.2.2.2.2.2.2.2.1 (10 * j + r) (by omega)
  rw [if_pos (by decide), ck_t h.k8, h.r12, bR_s, ck_t h.k8, vr, e40, ck_t (h.i62 (by omega)), gIc (by omega), eT]
  by_cases s0 : T (40 + (10 * j + r)) = 0
  · rw [if_pos s0, if_pos (by rw [le0 (by omega)]; exact s0), ck_t h.k8, nm_s, ck_t h.k8]
    refine r_go2 h (fun Q h _ => ?_)
    rw [ck_t h.k8]
    refine r_number 1 9999 (by omega) (by omega) h (fun e Q q => ?_) (fun a Q a1 a2 e10 h => ?_)
    · rw [if_neg (by decide)]; exact Ok_some.mpr (z e Q q)
    have h2 := h.wT (q := 40 + (10 * j + r)) (y := a) (by omega) (dw.prz (q := 10 * j + r) (by omega) a2)
    have e14 : gI (sI Q (B + 62) (40 + (10 * j + r)) (nI a)) (B + 59) 14 = nI pz := by rw [h2.sl (by omega)]; exact b3
    rw [if_pos (by decide), ck_t h.k8, h.r12, bR_s, ck_t h.k8, ck_t (h.i62 (by omega)), nm_s, sIc (by omega), e10, ck_t h2.k8, ck_t h2.k8, nm_s, e14, nI_1]
    refine Ok_some.mpr (h1 _ _ _ _ h2.2.2.1.1 ⟨h2.cnt (by omega), ?_, sI_hit, ?_, c2, by omega, c4⟩ (h2.2.2.2.2.2.2.2.L.tr (KrL.cnt (Or.inr (Or.inl rfl)))))
    · rw [sI_oth (by omega)]; exact (h2.sl (by omega)).trans b2
    · rw [sI_oth (by omega)]; exact (h2.sl (by omega)).trans b4
  · rw [if_neg s0, if_neg (by rw [le0 (by omega)]; exact s0), ck_t h.k8]
    exact r_bad 2 h (fun N q => ok_01 (Or.inl rfl) (z _ N q))
theorem r_priceLine {k : Nat → Td → Td → Ou} {Ψ : Ou → Int32 → Mm → Prop} (h : LnR B n tp f T S l g hh pz pc P) (h0 : ∀ e Q, FrL B P e Q → Ψ (.inl e) (nI 0) Q) (h1 : ∀ f2 T S Q, f ≤ f2 → LnR B n tp f2 T S l g hh pz (pc + 1) Q → KrL B P Q → Ψ (k f2 T S) (nI 1) Q) : Ok (f_X8_priceLine (B + 59) P) (Ψ (pPrice n tp f T S l pc k)) := by
  obtain ⟨h, b2, b3, b4, c2, c3, c4⟩ := h
  have dw := h.2.2.2.2.2.2.1
  have hb := dw.b
  have z : ∀ e Q, Fr B P e Q → Ψ (.inl e) (nI 0) Q := fun e Q q => h0 e Q q.L
  have e2 : gI P (B + 59) 15 = nI pc := b4
  rw [f_X8_priceLine, ck_t h.k8, e2, pPrice]
  by_cases e20 : pc = 24
  · rw [if_pos e20, if_neg (not_not_intro (show nI pc = (24 : Int32) by rw [e20]; rfl)), ck_t h.k8]
    exact r_bad 5 h (fun N q => ok_01 (Or.inl rfl) (z _ N q))
  rw [if_neg e20, if_pos (by rw [show (24 : Int32) = nI 24 from rfl, nI_eq (by omega) (by omega)]; exact e20), ck_t h.k8]
  refine r_go2 h (fun Q h _ => ?_)
  rw [ck_t h.k8]
  refine r_known 0 2 l (Or.inl ⟨rfl, rfl, rfl⟩) h (fun e Q q => ?_) (fun j Q hj e10 h => ?_)
  · rw [if_neg (by decide)]; exact Ok_some.mpr (z e Q q)
  have fr := dw.2.2.2.2.2.1 j 3 (by omega) (Or.inl hj)
  have t1 : 1 ≤ T (12 + 7 * j + 3) := fr.1
  have t2 : T (12 + 7 * j + 3) ≤ 20 := fr.2
  have e12 : (12 : Int32) + (7 : Int32) * nI j + (3 : Int32) = nI (12 + 7 * j + 3) := by
    rw [show (7 : Int32) = nI 7 from rfl, pk_mul, show (12 : Int32) = nI 12 from rfl, nI_add]; exact nI_add _ _
  have eT : gI Q (B + 62) (12 + 7 * j + 3) = nI (T (12 + 7 * j + 3)) := h.2.2.2.1 (12 + 7 * j + 3) (by omega)
  rw [if_pos (by decide), ck_t h.k8, nm_s, e10, ck_t h.k8, h.r12, bR_s, ck_t h.k8, e12, ck_t (h.i62 (by omega)), gIc (by omega), eT, ck_t h.k8]
  refine r_numberAt 1 (T (12 + 7 * j + 3)) (by omega) (by omega) h (fun e Q q => ?_) (fun r er kr vr r1 r2 => ?_)
  · rw [if_neg (by decide)]; exact Ok_some.mpr (z e Q q)
  have e40 : (1215 : Int32) + (21 : Int32) * nI j + nI r = nI (1215 + (21 * j + r)) := by
    rw [show (21 : Int32) = nI 21 from rfl, pk_mul, show (1215 : Int32) = nI 1215 from rfl, nI_add, nI_add, Nat.add_assoc]
  have eS : gI Q (B + 64) (1215 + (21 * j + r)) = nI (S (1215 + (21 * j + r))) := h.2.2.2.2.1 (1215 + (21 * j + r)) (by omega)
  have tb := dw.2.2.2.2.2.2.2.2.2.2.1 (21 * j + r) (by omega)
  rw [if_pos (by decide), ck_t h.k8, h.r18, bR_s, ck_t h.k8, vr, e40, ck_t (h.i64 (by omega)), gIc (by omega), eS]
  by_cases s0 : S (1215 + (21 * j + r)) = 0
  · rw [if_pos s0, if_pos (by rw [le0 (by omega)]; exact s0), ck_t h.k8, nm_s, ck_t h.k8]
    refine r_go2 h (fun Q h _ => ?_)
    rw [ck_t h.k8]
    refine r_number 1 999 (by omega) (by omega) h (fun e Q q => ?_) (fun a Q a1 a2 e10 h => ?_)
    · rw [if_neg (by decide)]; exact Ok_some.mpr (z e Q q)
    have h2 := h.wS (q := 1215 + (21 * j + r)) (y := a) (by omega) (dw.prc (q := 21 * j + r) (by omega) a2)
    have e14 : gI (sI Q (B + 64) (1215 + (21 * j + r)) (nI a)) (B + 59) 15 = nI pc := by rw [h2.sl (by omega)]; exact b4
    rw [if_pos (by decide), ck_t h.k8, h.r18, bR_s, ck_t h.k8, ck_t (h.i64 (by omega)), nm_s, sIc (by omega), e10, ck_t h2.k8, ck_t h2.k8, nm_s, e14, nI_1]
    refine Ok_some.mpr (h1 _ _ _ _ h2.2.2.1.1 ⟨h2.cnt (by omega), ?_, ?_, sI_hit, c2, c3, by omega⟩ (h2.2.2.2.2.2.2.2.L.tr (KrL.cnt (Or.inr (Or.inr rfl)))))
    · rw [sI_oth (by omega)]; exact (h2.sl (by omega)).trans b2
    · rw [sI_oth (by omega)]; exact (h2.sl (by omega)).trans b3
  · rw [if_neg s0, if_neg (by rw [le0 (by omega)]; exact s0), ck_t h.k8]
    exact r_bad 2 h (fun N q => ok_01 (Or.inl rfl) (z _ N q))
end TZ1
