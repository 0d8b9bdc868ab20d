/-! text: numbers held, prizes, prices: the class -/
def anyB (S : Td) : Nat → Nat → Bool
  | 0, _ => false
  | e + 1, q => if S (240 + q) = 0 then anyB S e (q + 1) else true
def hldB (x : Nat) : Nat → Nat → Td → Td
  | 0, _, S => S
  | e + 1, q, S => hldB x e (q + 1) (upN S (240 + q) x)
def pHolds (n : Nat) (tp : Td) (f : Nat) (T S : Td) (l g hh : Nat) (k : Nat → Td → Td → Ou) : Ou := if hh = 20 then .inl (8 * f + 5) else
  oKn n tp (nxT n tp f) T 6 g (fun h f => oKn n tp f T 2 l (fun j f => oN n tp 1 (T (12 + 7 * j + 0)) f (fun a f => oF n tp a (T (12 + 7 * j + 0)) f (fun b => if anyB S (b + 1 - a) (60 * j + (a - 1)) = true then .inl (8 * f + 2) else k (nxT n tp f) T (hldB (h + 1) (b + 1 - a) (60 * j + (a - 1)) S)))))
def pPrize (n : Nat) (tp : Td) (f : Nat) (T S : Td) (l pz : Nat) (k : Nat → Td → Td → Ou) : Ou := if pz = 12 then .inl (8 * f + 5) else
  oKn n tp (nxT n tp f) T 2 l (fun j f => oF n tp 1 9 f (fun r => if T (40 + (10 * j + r)) = 0 then oN n tp 1 9999 (nxT n tp f) (fun x f => k f (upN T (40 + (10 * j + r)) x) S) else .inl (8 * f + 2)))
def pPrice (n : Nat) (tp : Td) (f : Nat) (T S : Td) (l pc : Nat) (k : Nat → Td → Td → Ou) : Ou := if pc = 24 then .inl (8 * f + 5) else
  oKn n tp (nxT n tp f) T 2 l (fun j f => oF n tp 1 (T (12 + 7 * j + 3)) f (fun y => if S (1215 + (21 * j + y)) = 0 then oN n tp 1 999 (nxT n tp f) (fun x f => k f T (upN S (1215 + (21 * j + y)) x)) else .inl (8 * f + 2)))
def KcL (B d : Nat) (M N : Mm) : Prop := N.2 = M.2 ∧ (∀ b, b ≠ B + 28 → (b < d ∨ d + 14 ≤ b) → N.1 b = M.1 b) ∧ ∀ j, (j < 4 ∨ 8 < j) → N.1 (B + 28) j = M.1 (B + 28) j
def FL (B d : Nat) (M : Mm) (e : Nat) (N : Mm) : Prop := N.1 (B + 28) 8 = nI e ∧ KcL B d M N ∧ e < 6000
def LnC (B d n : Nat) (tp : Td) (f : Nat) (T S : Td) (l g hh pz pc : Nat) (M : Mm) : Prop := CP B d n tp M f f T S l 0 g 0 M ∧ M.1 d 2 = nI hh ∧ M.1 d 3 = nI pz ∧ M.1 d 4 = nI pc ∧ hh ≤ 20 ∧ pz ≤ 12 ∧ pc ≤ 24
section TY9
variable {B d n f0 f l w g v i x c lo hi w2 v2 l2 g2 nn j q hh pz pc : Nat} {tp T S T2 S2 : Td} {M0 M N P0 P Q : Mm} {u : Int32}
theorem Kc.L (h : Kc B d M N) : KcL B d M N := ⟨h.1, h.2.1, h.2.2.1⟩
theorem KcL.rf : KcL B d M M := ⟨rfl, fun _ _ _ => rfl, fun _ _ => rfl⟩
theorem KcL.tr (h : KcL B d M0 M) (k : KcL B d M N) : KcL B d M0 N := ⟨k.1.trans h.1, fun b h1 h2 => (k.2.1 b h1 h2).trans (h.2.1 b h1 h2), fun j hj => (k.2.2 j hj).trans (h.2.2 j hj)⟩
theorem Fc.L {e : Nat} (h : KcL B d M0 M) (k : Fc B d M e N) : FL B d M0 e N := ⟨k.1, h.tr k.2.1.L, k.2.2⟩
theorem CP.reb (h : CP B d n tp M0 f0 f T S l w g v M) : CP B d n tp M f f T S l w g v M := ⟨h.1, h.2.1, ⟨Nat.le_refl _, h.2.2.1.2⟩, h.2.2.2.1, h.2.2.2.2.1, h.2.2.2.2.2.1, Kc.rf⟩
theorem CP.cnt (h : CP B d n tp M0 f0 f T S l w g v M) (hi : 2 ≤ i) : CP B d n tp (sI M d i u) f f T S l w g v (sI M d i u) := by
  obtain ⟨h1, h2, h3, h4, h5, h6, h7⟩ := h
  have o : ∀ b, b ≠ d → (sI M d i u).1 b = M.1 b := fun b hb => sI_ne hb
  refine ⟨⟨h1.1, by rw [o _ (by omega)]; exact h1.2.1, h1.2.2.1, fun k hk => by rw [o _ (by omega)]; exact h1.2.2.2 k hk⟩, ?_, ⟨Nat.le_refl _, h3.2⟩, h4, ?_, h6, Kc.rf⟩
  · unfold TkC
    rw [o _ (by omega)]; exact h2
  · obtain ⟨a1, a2, a3, a4, a5, a6, a7, a8, a9⟩ := h5
    refine ⟨by rw [sI_oth (by omega)]; exact a1, by rw [sI_oth (by omega)]; exact a2, fun k hk => by rw [o _ (by omega)]; exact a3 k hk, fun k j hj hk => by rw [o _ (by omega)]; exact a4 k j hj hk, fun k hk => by rw [o _ (by omega)]; exact a5 k hk, fun k hk => by rw [o _ (by omega)]; exact a6 k hk, fun k hk => by rw [o _ (by omega)]; exact a7 k hk, fun k hk => by rw [o _ (by omega)]; exact a8 k hk, fun k hk => by rw [o _ (by omega)]; exact a9 k hk⟩
theorem KcL.cnt (h : CP B d n tp M0 f0 f T S l w g v M) : KcL B d M (sI M d i u) := by
  have hd := h.2.2.1.2.2
  exact ⟨rfl, fun b b1 b2 => sI_ne (by omega), fun j hj => by rw [sI_ne (by omega)]⟩
theorem CP.toL (h : CP B d n tp M0 f0 f T S l 0 g 0 M) (h2 : M0.1 d 2 = nI hh) (h3 : M0.1 d 3 = nI pz) (h4 : M0.1 d 4 = nI pc) (hb : hh ≤ 20 ∧ pz ≤ 12 ∧ pc ≤ 24) : LnC B d n tp f T S l g hh pz pc M := by
  have k := h.2.2.2.2.2.2.2.2.2
  exact ⟨h.reb, by rw [k 2 (by omega)]; exact h2, by rw [k 3 (by omega)]; exact h3, by rw [k 4 (by omega)]; exact h4, hb⟩
theorem sub1_m1 {s : Nat} (h : s ≤ 6) : (nI s - 1 = (-1 : Int32)) = (s = 0) := by
  rw [show (1 : Int32) = nI 1 from rfl, fa_eq, pk_sub_toInt (by omega) (by omega)]
  have : (-nI 1 : Int32).toInt = -1 := by decide
  rw [this]
  exact propext ⟨fun q => by omega, fun q => by omega⟩
theorem c_any (h : CP B d n tp M0 f0 f T S l w g v M) (hj : j < 4) : ∀ (e c m : Nat), c + e ≤ 60 → e < m → f_X6_anyHeld_3 m d (nI j) (nI (c + e)) (nI (c + 1)) M = some (if anyB S e (60 * j + c) = true then nI 1 else nI 0, M) := by
  have a11 := h.a11
  have hb := h.2.2.2.2.2.1.b
  intro e
  induction e with
  | zero =>
    intro c m hc hm
    obtain ⟨m, rfl⟩ : ∃ q, m = q + 1 := ⟨m - 1, by omega⟩
    rw [f_X6_anyHeld_3, if_pos (by rw [nI_ltI (by omega) (by omega)]; omega)]
    rfl
  | succ e ih =>
    intro c m hc hm
    obtain ⟨m, rfl⟩ : ∃ q, m = q + 1 := ⟨m - 1, by omega⟩
    have s6 := h.2.2.2.2.2.1.2.2.2.2.2.2.2.2.1 (60 * j + c) (by omega)
    have ow : gI M (d + 11) (60 * j + c) = nI (S (240 + (60 * j + c))) - 1 := h.2.2.2.2.1.2.2.2.2.2.2.1 (60 * j + c) (by omega)
    have i11 : gK M (d + 11) = 10 ∧ inb (nI (60 * j + c)) (gN M (d + 11)) := ⟨a11.1, by rw [a11.2]; exact nI_in (by omega) (by omega)⟩
    rw [f_X6_anyHeld_3, if_neg (by rw [nI_ltI (by omega) (by omega)]; omega), ck_t h.k6, h.r15, bR_s, p_spotOf, bd_s, ck_t i11, gIc (by omega), ow]
    by_cases z : S (240 + (60 * j + c)) = 0
    · have ez : anyB S (e + 1) (60 * j + c) = anyB S e (60 * j + c + 1) := if_pos z
      rw [if_pos (by rw [sub1_m1 (by omega)]; exact z), nI_1, ez, show c + (e + 1) = c + 1 + e by omega]
      exact ih (c + 1) m (by omega) (by omega)
    · have ez : anyB S (e + 1) (60 * j + c) = true := if_neg z
      rw [if_neg (by rw [sub1_m1 (by omega)]; exact z), ez]; rfl
theorem CP.hldw (h : CP B d n tp M0 f0 f T S l 0 g 0 M) (hq : q < 240) (hx : x + 1 ≤ g) : CP B d n tp M0 f0 f T (upN S (240 + q) (x + 1)) l 0 g 0 (sI M (d + 11) q (nI x)) :=
  h.wr (by omega) (h.2.2.2.2.1.hld h.2.2.2.2.2.1.b hq (by rw [sI_hit, nI_pred]) (fun k hk => sI_oth hk) (fun b b1 b2 b3 => sI_ne b3)) (h.2.2.2.2.2.1.hld hq hx)
theorem c_hold (hj : j < 4) (hx : x + 1 ≤ g) : ∀ (e c m : Nat) (S : Td) (M : Mm), CP B d n tp M0 f0 f T S l 0 g 0 M → c + e ≤ 60 → e < m → ∃ N, f_X6_hold_3 m d (nI x) (nI j) (nI (c + e)) (nI (c + 1)) M = some ((), N) ∧ CP B d n tp M0 f0 f T (hldB (x + 1) e (60 * j + c) S) l 0 g 0 N := by
  intro e
  induction e with
  | zero =>
    intro c m S M h hc hm
    obtain ⟨m, rfl⟩ : ∃ q, m = q + 1 := ⟨m - 1, by omega⟩
    exact ⟨M, by rw [f_X6_hold_3, if_pos (by rw [nI_ltI (by omega) (by omega)]; omega)], h⟩
  | succ e ih =>
    intro c m S M h hc hm
    obtain ⟨m, rfl⟩ : ∃ q, m = q + 1 := ⟨m - 1, by omega⟩
    have a11 := h.a11
    have i11 : gK M (d + 11) = 10 ∧ inb (nI (60 * j + c)) (gN M (d + 11)) := ⟨a11.1, by rw [a11.2]; exact nI_in (by omega) (by omega)⟩
    obtain ⟨N, q1, q2⟩ := ih (c + 1) m _ _ (h.hldw (q := 60 * j + c) (by omega) hx) (by omega) (by omega)
    refine ⟨N, ?_, q2⟩
    rw [f_X6_hold_3, if_neg (by rw [nI_ltI (by omega) (by omega)]; omega), ck_t h.k6, h.r15, bR_s, p_spotOf, bd_s, ck_t i11, nm_s, sIc (by omega), nI_1, show c + (e + 1) = c + 1 + e by omega]
    exact q1
theorem c_readHolds {k : Nat → Td → Td → Ou} {Ψ : Ou → Int32 → Mm → Prop} (h : LnC B d n tp f T S l g hh pz pc M) (hk : wdT n tp f ≠ 0) (h0 : ∀ e N, FL B d M e N → Ψ (.inl e) (nI 0) N) (h1 : ∀ f2 T S N, f < f2 → LnC B d n tp f2 T S l g (hh + 1) pz pc N → KcL B d M N → Ψ (k f2 T S) (nI 1) N) : Ok (f_X3_readHolds (B + 28) M) (Ψ (pHolds n tp f T S l g hh (fun f T S => oS n tp f (fun f => k f T S)))) := by
  obtain ⟨h, b2, b3, b4, c2, c3, c4⟩ := h
  have hd := h.2.2.1.2.2
  have dw := h.2.2.2.2.2.1
  have hb := dw.b
  have e2 : gI M d 2 = nI hh := b2
  rw [f_X3_readHolds, ck_t h.k3, h.r3, bR_s, ck_t h.k6, e2, pHolds]
  by_cases e20 : hh = 20
  · rw [if_pos e20, if_neg (by rw [show (20 : Int32) = nI 20 from rfl, nI_ltI (by omega) (by omega)]; omega), ck_t h.k3]
    exact c_ref 5 h (fun N q => ok_01 (Or.inl rfl) (h0 _ N (Fc.L KcL.rf q)))
  have hM := h.cnt (i := 2) (u := nI (hh + 1)) (by omega)
  have kM : KcL B d M (sI M d 2 (nI (hh + 1))) := KcL.cnt h
  have m2 : (sI M d 2 (nI (hh + 1))).1 d 2 = nI (hh + 1) := sI_hit
  have m3 : (sI M d 2 (nI (hh + 1))).1 d 3 = nI pz := by rw [sI_oth (by omega)]; exact b3
  have m4 : (sI M d 2 (nI (hh + 1))).1 d 4 = nI pc := by rw [sI_oth (by omega)]; exact b4
  rw [if_neg e20, if_pos (by rw [show (20 : Int32) = nI 20 from rfl, nI_ltI (by omega) (by omega)]; omega), ck_t h.k3, bR_s, ck_t h.k6, ck_t h.k6, nm_s, e2, nI_1]
  generalize sI M d 2 (nI (hh + 1)) = M1 at hM kM m2 m3 m4 ⊢
  have z : ∀ e N, Fc B d M1 e N → Ψ (.inl e) (nI 0) N := fun e N q => h0 e N (Fc.L kM q)
  rw [ck_t hM.k3]
  refine c_adv2 hM (wd_k hk) (fun N h => ?_)
  rw [ck_t h.k3]
  refine c_knownHolder h (fun e N q => ?_) (fun y N hy h => ?_)
  · rw [if_neg (not_not_intro (show (-nI 1 : Int32) = (-1 : Int32) from rfl))]; exact Ok_some.mpr (z e N q)
  rw [if_pos (nI_m1 (by omega)), ck_t h.k3]
  refine c_knownLoan h (fun e N q => ?_) (fun j N hj h => ?_)
  · rw [if_pos (show (-nI 1 : Int32) = (-1 : Int32) from rfl)]; exact Ok_some.mpr (z e N q)
  have fr := dw.2.2.2.2.2.1 j 0 (by omega) (Or.inl hj)
  have t1 : 1 ≤ T (12 + 7 * j + 0) := fr.1
  have t2 : T (12 + 7 * j + 0) ≤ 60 := fr.2
  have eb : ∀ {f3 R}, CP B d n tp M1 f f3 T S l 0 g 0 R → gI R (d + 2) j = nI (T (12 + 7 * j + 0)) := fun h => h.2.2.2.2.1.2.2.2.1 j 0 (by omega) (Or.inl hj)
  have ix : ∀ {f3 R}, CP B d n tp M1 f f3 T S l 0 g 0 R → gK R (d + 2) = 10 ∧ inb (nI j) (gN R (d + 2)) := fun h => ⟨h.a2.1, by rw [h.a2.2]; exact nI_in (by omega) (by omega)⟩
  rw [if_neg (nI_m1 (by omega)), ck_t h.k3, h.r3, bR_s, ck_t h.k6, h.r6, bR_s, ck_t (ix h), ck_t h.k3, gIc (by omega), eb h, oN]
  refine c_fits 1 (T (12 + 7 * j + 0)) (by omega) (by omega) h (fun e N q => ?_) (fun a ea ka va a1 a2 => ?_)
  · rw [if_neg (by decide)]; exact Ok_some.mpr (z e N q)
  rw [if_pos (by decide), ck_t h.k3, nm_s, va, ck_t h.k3]
  refine c_adv2 h (by omega) (fun N h => ?_)
  rw [ck_t h.k3, h.r3, bR_s, ck_t h.k6, h.r6, bR_s, ck_t (ix h), ck_t h.k3, gIc (by omega), eb h]
  refine c_fits a (T (12 + 7 * j + 0)) (by omega) (by omega) h (fun e N q => ?_) (fun b ebb kb vb b1 b2 => ?_)
  · rw [if_neg (by decide)]; exact Ok_some.mpr (z e N q)
  have any := c_any h (show j < 4 by omega) (b + 1 - a) (a - 1) FU (by omega) (by unfold FU; omega)
  rw [show a - 1 + (b + 1 - a) = b by omega, show a - 1 + 1 = a by omega] at any
  rw [if_pos (by decide), ck_t h.k3, h.r3, bR_s, ck_t h.k3, ck_t h.k6, vb, f_X6_anyHeld, any, bd_s]
  by_cases w : anyB S (b + 1 - a) (60 * j + (a - 1)) = true
  · rw [if_pos w, if_pos w, if_neg (by decide), ck_t h.k3]
    exact c_ref 2 h (fun N q => ok_01 (Or.inl rfl) (z _ N q))
  obtain ⟨R, r1, r2⟩ := c_hold (show j < 4 by omega) (show y + 1 ≤ g by omega) (b + 1 - a) (a - 1) FU S N h (by omega) (by unfold FU; omega)
  rw [show a - 1 + (b + 1 - a) = b by omega, show a - 1 + 1 = a by omega] at r1
  rw [if_neg w, if_neg w, if_pos (by decide), ck_t h.k3, h.r3, bR_s, ck_t h.k3, ck_t h.k6, vb, f_X6_hold, r1, bd_s, ck_t r2.k3]
  refine c_adv2 r2 (by omega) (fun N h => ?_)
  rw [ck_t h.k3]
  have lo := h.2.2.1.1
  refine c_sign h (fun e N q => ok_01 (Or.inl rfl) (z e N q)) (fun N lt h => ?_)
  exact ok_01 (Or.inr rfl) (h1 _ _ _ N (by omega) (h.toL m2 m3 m4 ⟨by omega, c3, c4⟩) (kM.tr h.2.2.2.2.2.2.L))
theorem CP.przw (h : CP B d n tp M0 f0 f T S l 0 g 0 M) (hq : q < 40) (hx : x ≤ 9999) : CP B d n tp M0 f0 f (upN T (40 + q) x) S l 0 g 0 (sI M (d + 12) q (nI x)) :=
  h.wr (by omega) (h.2.2.2.2.1.prz h.2.2.2.2.2.1.b hq sI_hit (fun k hk => sI_oth hk) (fun b b1 b2 b3 => sI_ne b3)) (h.2.2.2.2.2.1.prz hq hx)
theorem CP.prcw (h : CP B d n tp M0 f0 f T S l 0 g 0 M) (hq : q < 84) (hx : x ≤ 999) : CP B d n tp M0 f0 f T (upN S (1215 + q) x) l 0 g 0 (sI M (d + 13) q (nI x)) :=
  h.wr (by omega) (h.2.2.2.2.1.prc h.2.2.2.2.2.1.b hq sI_hit (fun k hk => sI_oth hk) (fun b b1 b2 b3 => sI_ne b3)) (h.2.2.2.2.2.1.prc hq hx)
/-- a sum told once, and the sign behind it -/
theorem c_sum {k : Nat → Nat → Ou} {Ψ : Ou → Int32 → Mm → Prop} {T2 S2 : Nat → Td} (a q s hi nn : Nat) (hhi : hi < 2 ^ 30) (h : CP B d n tp M0 f0 f T S l 0 g 0 M) (ha : ∀ {f3 R}, CP B d n tp M0 f0 f3 T S l 0 g 0 R → gK R a = 10 ∧ gN R a = nn) (hq : q < nn) (hnn : nn ≤ 1000) (hs : gI M a q = nI s) (hs2 : s < 2 ^ 30) (hk : tkK n tp f = 2) (hw : ∀ {f3 R} x, CP B d n tp M0 f0 f3 T S l 0 g 0 R → 1 ≤ x → x ≤ hi → CP B d n tp M0 f0 f3 (T2 x) (S2 x) l 0 g 0 (sI R a q (nI x))) (h0 : ∀ e N, Fc B d M0 e N → Ψ (.inl e) (nI 0) N) (h1 : ∀ x f2 N, f0 < f2 → CP B d n tp M0 f0 f2 (T2 x) (S2 x) l 0 g 0 N → Ψ (k x f2) (nI 1) N) : Ok (f_X3_sumOnce (B + 28) a (nI q) (nI hi) M) (Ψ (if s = 0 then oN n tp 1 hi (nxT n tp f) (fun x f => oS n tp f (fun f => k x f)) else .inl (8 * f + 2))) := by
  have iq : gK M a = 10 ∧ inb (nI q) (gN M a) := ⟨(ha h).1, by rw [(ha h).2]; exact nI_in hq (by omega)⟩
  rw [f_X3_sumOnce, ck_t iq, gIc (by omega), hs]
  by_cases e : s = 0
  · rw [if_pos e, if_pos (by rw [e]; rfl), ck_t h.k3]
    refine c_adv2 h (by omega) (fun N h => ?_)
    rw [ck_t h.k3]
    refine c_number (T2 := T2) (S2 := S2) a q 1 hi nn (by omega) hhi h (ha h) hq hnn (fun x b1 b2 => hw x h b1 b2) (fun e N q => ?_) (fun x N _ _ h => ?_)
    · rw [if_pos (by decide)]; exact Ok_some.mpr (h0 e N q)
    rw [if_neg (by decide), ck_t h.k3]
    have lo := h.2.2.1.1
    refine c_sign h (fun e N q => ?_) (fun N lt h => ?_)
    · rw [if_pos (by decide)]; exact Ok_some.mpr (h0 e N q)
    rw [if_neg (by decide)]; exact Ok_some.mpr (h1 x _ N (by omega) h)
  · rw [if_neg e, if_neg (by rw [show (0 : Int32) = nI 0 from rfl, nI_eq (by omega) (by omega)]; exact e), ck_t h.k3]
    exact c_ref 2 h (fun N q => ok_01 (Or.inl rfl) (h0 _ N q))
theorem c_readPrize {k : Nat → Td → Td → Ou} {Ψ : Ou → Int32 → Mm → Prop} (h : LnC B d n tp f T S l g hh pz pc M) (hk : wdT n tp f ≠ 0) (h0 : ∀ e N, FL B d M e N → Ψ (.inl e) (nI 0) N) (h1 : ∀ f2 T S N, f < f2 → LnC B d n tp f2 T S l g hh (pz + 1) pc N → KcL B d M N → Ψ (k f2 T S) (nI 1) N) : Ok (f_X3_readPrize (B + 28) M) (Ψ (pPrize n tp f T S l pz (fun f T S => oS n tp f (fun f => k f T S)))) := by
  obtain ⟨h, b2, b3, b4, c2, c3, c4⟩ := h
  have hd := h.2.2.1.2.2
  have dw := h.2.2.2.2.2.1
  have hb := dw.b
  have e2 : gI M d 3 = nI pz := b3
  rw [f_X3_readPrize, ck_t h.k3, h.r3, bR_s, ck_t h.k6, e2, pPrize]
  by_cases e20 : pz = 12
  · rw [if_pos e20, if_neg (by rw [show (12 : Int32) = nI 12 from rfl, nI_ltI (by omega) (by omega)]; omega), ck_t h.k3]
    exact c_ref 5 h (fun N q => ok_01 (Or.inl rfl) (h0 _ N (Fc.L KcL.rf q)))
  have hM := h.cnt (i := 3) (u := nI (pz + 1)) (by omega)
  have kM : KcL B d M (sI M d 3 (nI (pz + 1))) := KcL.cnt h
  have m2 : (sI M d 3 (nI (pz + 1))).1 d 2 = nI hh := by rw [sI_oth (by omega)]; exact b2
  have m3 : (sI M d 3 (nI (pz + 1))).1 d 3 = nI (pz + 1) := sI_hit
  have m4 : (sI M d 3 (nI (pz + 1))).1 d 4 = nI pc := by rw [sI_oth (by omega)]; exact b4
  rw [if_neg e20, if_pos (by rw [show (12 : Int32) = nI 12 from rfl, nI_ltI (by omega) (by omega)]; omega), ck_t h.k3, bR_s, ck_t h.k6, ck_t h.k6, nm_s, e2, nI_1]
  generalize sI M d 3 (nI (pz + 1)) = M1 at hM kM m2 m3 m4 ⊢
  have z : ∀ e N, Fc B d M1 e N → Ψ (.inl e) (nI 0) N := fun e N q => h0 e N (Fc.L kM q)
  rw [ck_t hM.k3]
  refine c_adv2 hM (wd_k hk) (fun N h => ?_)
  rw [ck_t h.k3]
  refine c_knownLoan h (fun e N q => ?_) (fun j N hj h => ?_)
  · rw [if_pos (show (-nI 1 : Int32) = (-1 : Int32) from rfl)]; exact Ok_some.mpr (z e N q)
  rw [if_neg (nI_m1 (by omega)), ck_t h.k3]
  refine c_fits 1 9 (by omega) (by omega) h (fun e N q => ?_) (fun r er kr vr r1 r2 => ?_)
  · rw [if_neg (by decide)]; exact Ok_some.mpr (z e N q)
  have es : gI N (d + 12) (10 * j + r) = nI (T (40 + (10 * j + r))) := h.2.2.2.2.1.2.2.2.2.2.2.2.1 (10 * j + r) (by omega)
  have tb := dw.2.2.2.2.2.2.2.2.2.1 (10 * j + r) (by omega)
  rw [if_pos (by decide), ck_t h.k3, h.r3, bR_s, ck_t h.k6, h.r16, bR_s, ck_t h.k3, vr, p_rankOf, bd_s, ck_t h.k3, Ok_bd]
  refine (c_sum (k := fun x f => k f (upN T (40 + (10 * j + r)) x) S) (T2 := fun x => upN T (40 + (10 * j + r)) x) (S2 := fun _ => S) (Ψ := fun o x M => Ok (ck (x = 0 ∨ x = 1) (some (x, M))) (Ψ o)) (d + 12) (10 * j + r) (T (40 + (10 * j + r))) 9999 40 (by omega) h (fun h => h.a12) (by omega) (by omega) es (by omega) kr (fun x h b1 b2 => h.przw (by omega) b2) (fun e N q => ok_01 (Or.inl rfl) (z e N q)) (fun x f2 N lt h => ok_01 (Or.inr rfl) (h1 _ _ _ N lt (h.toL m2 m3 m4 ⟨c2, by omega, c4⟩) (kM.tr h.2.2.2.2.2.2.L))))
theorem c_readPrice {k : Nat → Td → Td → Ou} {Ψ : Ou → Int32 → Mm → Prop} (h : LnC B d n tp f T S l g hh pz pc M) (hk : wdT n tp f ≠ 0) (h0 : ∀ e N, FL B d M e N → Ψ (.inl e) (nI 0) N) (h1 : ∀ f2 T S N, f < f2 → LnC B d n tp f2 T S l g hh pz (pc + 1) N → KcL B d M N → Ψ (k f2 T S) (nI 1) N) : Ok (f_X3_readPrice (B + 28) M) (Ψ (pPrice n tp f T S l pc (fun f T S => oS n tp f (fun f => k f T S)))) := by
  obtain ⟨h, b2, b3, b4, c2, c3, c4⟩ := h
  have hd := h.2.2.1.2.2
  have dw := h.2.2.2.2.2.1
  have hb := dw.b
  have e2 : gI M d 4 = nI pc := b4
  rw [f_X3_readPrice, ck_t h.k3, h.r3, bR_s, ck_t h.k6, e2, pPrice]
  by_cases e20 : pc = 24
  · rw [if_pos e20, if_neg (by rw [show (24 : Int32) = nI 24 from rfl, nI_ltI (by omega) (by omega)]; omega), ck_t h.k3]
    exact c_ref 5 h (fun N q => ok_01 (Or.inl rfl) (h0 _ N (Fc.L KcL.rf q)))
  have hM := h.cnt (i := 4) (u := nI (pc + 1)) (by omega)
  have kM : KcL B d M (sI M d 4 (nI (pc + 1))) := KcL.cnt h
  have m2 : (sI M d 4 (nI (pc + 1))).1 d 2 = nI hh := by rw [sI_oth (by omega)]; exact b2
  have m3 : (sI M d 4 (nI (pc + 1))).1 d 3 = nI pz := by rw [sI_oth (by omega)]; exact b3
  have m4 : (sI M d 4 (nI (pc + 1))).1 d 4 = nI (pc + 1) := sI_hit
  rw [if_neg e20, if_pos (by rw [show (24 : Int32) = nI 24 from rfl, nI_ltI (by omega) (by omega)]; omega), ck_t h.k3, bR_s, ck_t h.k6, ck_t h.k6, nm_s, e2, nI_1]
  generalize sI M d 4 (nI (pc + 1)) = M1 at hM kM m2 m3 m4 ⊢
  have z : ∀ e N, Fc B d M1 e N → Ψ (.inl e) (nI 0) N := fun e N q => h0 e N (Fc.L kM q)
  rw [ck_t hM.k3]
  refine c_adv2 hM (wd_k hk) (fun N h => ?_)
  rw [ck_t h.k3]
  refine c_knownLoan h (fun e N q => ?_) (fun j N hj h => ?_)
  · rw [if_pos (show (-nI 1 : Int32) = (-1 : Int32) from rfl)]; exact Ok_some.mpr (z e N q)
  have fr := dw.2.2.2.2.2.1 j 3 (by omega) (Or.inl hj)
  have t1 : 1 ≤ T (12 + 7 * j + 3) := fr.1
  have t2 : T (12 + 7 * j + 3) ≤ 20 := fr.2
  have eb : gI N (d + 5) j = nI (T (12 + 7 * j + 3)) := h.2.2.2.2.1.2.2.2.1 j 3 (by omega) (Or.inl hj)
  have ix : gK N (d + 5) = 10 ∧ inb (nI j) (gN N (d + 5)) := ⟨h.a5.1, by rw [h.a5.2]; exact nI_in (by omega) (by omega)⟩
  rw [if_neg (nI_m1 (by omega)), ck_t h.k3, h.r3, bR_s, ck_t h.k6, h.r9, bR_s, ck_t ix, ck_t h.k3, gIc (by omega), eb]
  refine c_fits 1 (T (12 + 7 * j + 3)) (by omega) (by omega) h (fun e N q => ?_) (fun r er kr vr r1 r2 => ?_)
  · rw [if_neg (by decide)]; exact Ok_some.mpr (z e N q)
  have es : gI N (d + 13) (21 * j + r) = nI (S (1215 + (21 * j + r))) := h.2.2.2.2.1.2.2.2.2.2.2.2.2 (21 * j + r) (by omega)
  have tb := dw.2.2.2.2.2.2.2.2.2.2.1 (21 * j + r) (by omega)
  rw [if_pos (by decide), ck_t h.k3, h.r3, bR_s, ck_t h.k6, h.r17, bR_s, ck_t h.k3, vr, p_cellOf, bd_s, ck_t h.k3, Ok_bd]
  refine (c_sum (k := fun x f => k f T (upN S (1215 + (21 * j + r)) x)) (T2 := fun _ => T) (S2 := fun x => upN S (1215 + (21 * j + r)) x) (Ψ := fun o x M => Ok (ck (x = 0 ∨ x = 1) (some (x, M))) (Ψ o)) (d + 13) (21 * j + r) (S (1215 + (21 * j + r))) 999 84 (by omega) h (fun h => h.a13) (by omega) (by omega) es (by omega) kr (fun x h b1 b2 => h.prcw (by omega) b2) (fun e N q => ok_01 (Or.inl rfl) (z e N q)) (fun x f2 N lt h => ok_01 (Or.inr rfl) (h1 _ _ _ N lt (h.toL m2 m3 m4 ⟨c2, c3, by omega⟩) (kM.tr h.2.2.2.2.2.2.L))))
end TY9
