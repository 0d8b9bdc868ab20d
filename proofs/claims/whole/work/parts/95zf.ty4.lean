/-! text: both sides between two tokens of a line; steps of a line, each with what comes behind it -/
def Kc (B d : Nat) (M N : Mm) : Prop := N.2 = M.2 ∧ (∀ b, b ≠ B + 28 → (b < d ∨ d + 14 ≤ b) → N.1 b = M.1 b) ∧ (∀ j, (j < 4 ∨ 8 < j) → N.1 (B + 28) j = M.1 (B + 28) j) ∧ ∀ j, 2 ≤ j → N.1 d j = M.1 d j
def Kr (B : Nat) (P Q : Mm) : Prop := Q.2 = P.2 ∧ (∀ b, b ≠ B + 59 → b ≠ B + 62 → b ≠ B + 64 → Q.1 b = P.1 b) ∧ ∀ j, (j < 4 ∨ 10 < j) → Q.1 (B + 59) j = P.1 (B + 59) j
def CP (B d n : Nat) (tp : Td) (M0 : Mm) (f0 f : Nat) (T S : Td) (l w g v : Nat) (M : Mm) : Prop := GC B M n tp ∧ TkC B M n tp f ∧ (f0 ≤ f ∧ f ≤ n ∧ (d + 14 ≤ B + 28 ∨ B + 30 ≤ d)) ∧ (M.2.2.1 (B + 28) 3 = some d ∧ TmA d M.2.2) ∧ CD M.1 d T S l w g v ∧ DW T S l w g v ∧ Kc B d M0 M
def RP (B n : Nat) (tp : Td) (P0 : Mm) (f0 f : Nat) (T S : Td) (l w g v : Nat) (P : Mm) : Prop := GT B P n tp ∧ TkR B P n tp f ∧ (f0 ≤ f ∧ f ≤ n) ∧ RW 80 (P.1 (B + 62)) T ∧ RW 1407 (P.1 (B + 64)) S ∧ P.1 (B + 59) 9 = nI 0 ∧ DW T S l w g v ∧ Kr B P0 P
def Fc (B d : Nat) (M0 : Mm) (e : Nat) (N : Mm) : Prop := N.1 (B + 28) 8 = nI e ∧ Kc B d M0 N ∧ e < 6000
def Fr (B : Nat) (P0 : Mm) (e : Nat) (Q : Mm) : Prop := Q.1 (B + 59) 9 = nI e ∧ Kr B P0 Q
def oW (n : Nat) (tp : Td) (x f : Nat) (k : Nat → Ou) : Ou := if wdT n tp f = x then k (nxT n tp f) else .inl (8 * f + 1)
def oS (n : Nat) (tp : Td) (f : Nat) (k : Nat → Ou) : Ou := if tkK n tp f = 3 then k (nxT n tp f) else .inl (8 * f + 1)
def oF (n : Nat) (tp : Td) (lo hi f : Nat) (k : Nat → Ou) : Ou := if tkK n tp f = 2 then (if inN n tp f lo hi then k (nvT n tp f) else .inl (8 * f + 4)) else .inl (8 * f + 1)
def oN (n : Nat) (tp : Td) (lo hi f : Nat) (k : Nat → Nat → Ou) : Ou := oF n tp lo hi f (fun x => k x (nxT n tp f))
section TY4
variable {B d n f0 f l w g v i x c lo hi : Nat} {tp T S : Td} {M0 M N P0 P Q : Mm} {α : Type}
theorem Kc.rf : Kc B d M M := ⟨rfl, fun _ _ _ => rfl, fun _ _ => rfl, fun _ _ => rfl⟩
theorem Kr.rf : Kr B P P := ⟨rfl, fun _ _ _ _ => rfl, fun _ _ => rfl⟩
theorem Kc.tr (h : Kc B d M0 M) (k : Kc B d M N) : Kc B d M0 N := ⟨k.1.trans h.1, fun b h1 h2 => (k.2.1 b h1 h2).trans (h.2.1 b h1 h2), fun j hj => (k.2.2.1 j hj).trans (h.2.2.1 j hj), fun j hj => (k.2.2.2 j hj).trans (h.2.2.2 j hj)⟩
theorem Kr.tr (h : Kr B P0 P) (k : Kr B P Q) : Kr B P0 Q := ⟨k.1.trans h.1, fun b h1 h2 h3 => (k.2.1 b h1 h2 h3).trans (h.2.1 b h1 h2 h3), fun j hj => (k.2.2 j hj).trans (h.2.2 j hj)⟩
theorem CP.k3 (h : CP B d n tp M0 f0 f T S l w g v M) : gK M (B + 28) = 3 := by
  have hD : CmD B M.2.2 := h.1.1
  simp (disch := omega) only [reduceIte, ↓reduceIte, ↓ck_i, ↓nm_s, ↓bR_i, ↓bd_i, Option.isSome_some, Option.getD_some, gK, gR, gN, gIs, inb_nI, and_self, nI_clamp, fa_lit, pk_mul, nI_add, n10, n1z, n00, eq_self, not_true_eq_false, not_false_eq_true, hD.a]
theorem CP.r3 (h : CP B d n tp M0 f0 f T S l w g v M) : gR M (B + 28) 3 = some d := h.2.2.2.1.1
theorem CP.k6 (h : CP B d n tp M0 f0 f T S l w g v M) : gK M d = 6 := h.2.2.2.1.2.1
theorem RP.k8 (h : RP B n tp P0 f0 f T S l w g v P) : gK P (B + 59) = 8 := by
  have hD : RfD B P.2.2 := h.1.1
  simp (disch := omega) only [reduceIte, ↓reduceIte, ↓ck_i, ↓nm_s, ↓bR_i, ↓bd_i, Option.isSome_some, Option.getD_some, gK, gR, gN, gIs, inb_nI, and_self, nI_clamp, fa_lit, pk_mul, nI_add, n10, n1z, n00, eq_self, not_true_eq_false, not_false_eq_true, hD.a]
theorem RP.r12 (h : RP B n tp P0 f0 f T S l w g v P) : gR P (B + 59) 12 = some (B + 62) := by
  have hD : RfD B P.2.2 := h.1.1
  simp (disch := omega) only [reduceIte, ↓reduceIte, ↓ck_i, ↓nm_s, ↓bR_i, ↓bd_i, Option.isSome_some, Option.getD_some, gK, gR, gN, gIs, inb_nI, and_self, nI_clamp, fa_lit, pk_mul, nI_add, n10, n1z, n00, eq_self, not_true_eq_false, not_false_eq_true, hD.a]
theorem RP.r18 (h : RP B n tp P0 f0 f T S l w g v P) : gR P (B + 59) 18 = some (B + 64) := by
  have hD : RfD B P.2.2 := h.1.1
  simp (disch := omega) only [reduceIte, ↓reduceIte, ↓ck_i, ↓nm_s, ↓bR_i, ↓bd_i, Option.isSome_some, Option.getD_some, gK, gR, gN, gIs, inb_nI, and_self, nI_clamp, fa_lit, pk_mul, nI_add, n10, n1z, n00, eq_self, not_true_eq_false, not_false_eq_true, hD.a]
theorem RP.a62 (h : RP B n tp P0 f0 f T S l w g v P) : gK P (B + 62) = 10 ∧ gN P (B + 62) = 80 ∧ gK P (B + 64) = 10 ∧ gN P (B + 64) = 1407 := by
  have hD : RfD B P.2.2 := h.1.1
  refine ⟨?_, ?_, ?_, ?_⟩ <;> simp (disch := omega) only [reduceIte, ↓reduceIte, ↓ck_i, ↓nm_s, ↓bR_i, ↓bd_i, Option.isSome_some, Option.getD_some, gK, gR, gN, gIs, inb_nI, and_self, nI_clamp, fa_lit, pk_mul, nI_add, n10, n1z, n00, eq_self, not_true_eq_false, not_false_eq_true, hD.a]
theorem Fc.mono {M1 : Mm} {e : Nat} (h : Kc B d M0 M1) (k : Fc B d M1 e N) : Fc B d M0 e N := ⟨k.1, h.tr k.2.1, k.2.2⟩
theorem CP.adv (h : CP B d n tp M0 f0 f T S l w g v M) (hk : tkK n tp f ≠ 0 ∧ tkK n tp f ≠ 4) : ∃ N, f_X3_advance (B + 28) M = some ((), N) ∧ CP B d n tp M0 f0 (nxT n tp f) T S l w g v N := by
  obtain ⟨h1, h2, h3, h4, h5, h6, h7⟩ := h
  have le := tk_le (tp := tp) h3.2.1
  have nl := nx_le (tp := tp) h3.2.1
  obtain ⟨N, q1, q2, q3⟩ := c_adv h1 (h2.2.2.1 hk.2) le.2
  refine ⟨N, q1, ⟨by rw [q2.1]; exact h1.1, by rw [q2.2.2 2 (by omega)]; exact h1.2.1, h1.2.2.1, fun k hk => by rw [q2.2.1 (B + 29) (by omega)]; exact h1.2.2.2 k hk⟩, q3, ⟨by omega, by omega, h3.2.2⟩, by rw [q2.1]; exact h4, h5.of (fun b b1 b2 => q2.2.1 b (by omega)), h6, h7.tr ⟨q2.1, fun b b1 b2 => q2.2.1 b b1, fun j hj => q2.2.2 j (by omega), fun j hj => by rw [q2.2.1 d (by omega)]⟩⟩
theorem RP.go (h : RP B n tp P0 f0 f T S l w g v P) : ∃ Q, f_X8_go (B + 59) P = some ((), Q) ∧ RP B n tp P0 f0 (nxT n tp f) T S l w g v Q ∧ KTk B P Q := by
  obtain ⟨h1, h2, h3, h4, h5, h6, h7, h8⟩ := h
  have le := tk_le (tp := tp) h3.2
  have nl := nx_le (tp := tp) h3.2
  obtain ⟨Q, q1, q2, q3⟩ := g_go h1 h2.2.1 le.2
  refine ⟨Q, q1, ⟨⟨by rw [q2.1]; exact h1.1, by rw [q2.2.2 3 (by omega)]; exact h1.2.1, h1.2.2.1, fun k hk => by rw [q2.2.1 (B + 60) (by omega)]; exact h1.2.2.2 k hk⟩, q3, ⟨by omega, by omega⟩, by rw [q2.2.1 (B + 62) (by omega)]; exact h4, by rw [q2.2.1 (B + 64) (by omega)]; exact h5, by rw [q2.2.2 9 (by omega)]; exact h6, h7, h8.tr ⟨q2.1, fun b b1 b2 b3 => q2.2.1 b b1, fun j hj => q2.2.2 j (by omega)⟩⟩, q2⟩
theorem c_adv2 {β : Type} {kc : Unit → Mm → Option (β × Mm)} {Ψ : β → Mm → Prop} (h : CP B d n tp M0 f0 f T S l w g v M) (hk : tkK n tp f ≠ 0 ∧ tkK n tp f ≠ 4) (h1 : ∀ N, CP B d n tp M0 f0 (nxT n tp f) T S l w g v N → Ok (kc () N) Ψ) : Ok (bd (f_X3_advance (B + 28) M) kc) Ψ := by
  obtain ⟨N, e, q⟩ := h.adv hk
  rw [e, bd_s]; exact h1 N q
theorem r_go2 {β : Type} {kc : Unit → Mm → Option (β × Mm)} {Ψ : β → Mm → Prop} (h : RP B n tp P0 f0 f T S l w g v P) (h1 : ∀ Q, RP B n tp P0 f0 (nxT n tp f) T S l w g v Q → KTk B P Q → Ok (kc () Q) Ψ) : Ok (bd (f_X8_go (B + 59) P) kc) Ψ := by
  obtain ⟨Q, e, q, q2⟩ := h.go
  rw [e, bd_s]; exact h1 Q q q2
theorem c_ref {β : Type} {kc : Int32 → Mm → Option (β × Mm)} {Ψ : β → Mm → Prop} (c : Nat) (h : CP B d n tp M0 f0 f T S l w g v M) (h0 : ∀ N, Fc B d M0 (8 * f + c) N → Ok (kc (nI 0) N) Ψ) (hc : c ≤ 8 := by decide) : Ok (bd (f_X3_refuse (B + 28) (nI c) M) kc) Ψ := by
  have e : f_X3_refuse (B + 28) (nI c) M = some (nI 0, sI M (B + 28) 8 (nI (8 * f + c))) := by
    rw [f_X3_refuse, ck_t h.k3, ck_t h.k3, nm_s, show gI M (B + 28) 5 = nI f from h.2.1.1, show (8 : Int32) = nI 8 from rfl, pk_mul, nI_add]; rfl
  rw [e, bd_s]
  have hd := h.2.2.1.2.2
  exact h0 _ ⟨sI_hit, h.2.2.2.2.2.2.tr ⟨rfl, fun b b1 b2 => sI_ne b1, fun j hj => sI_oth (by omega), fun j hj => by rw [sI_ne (by omega)]⟩, by have a1 := h.2.2.1.2.1; have a2 := h.1.2.2.1; omega⟩
theorem r_bad {β : Type} {kc : Int32 → Mm → Option (β × Mm)} {Ψ : β → Mm → Prop} (c : Nat) (h : RP B n tp P0 f0 f T S l w g v P) (h0 : ∀ Q, Fr B P0 (8 * f + c) Q → Ok (kc (nI 0) Q) Ψ) : Ok (bd (f_X8_bad (B + 59) (nI c) P) kc) Ψ := by
  have e : f_X8_bad (B + 59) (nI c) P = some (nI 0, sI P (B + 59) 9 (nI (8 * f + c))) := by
    rw [f_X8_bad, ck_t h.k8, if_neg (not_not_intro (show gI P (B + 59) 9 = 0 from h.2.2.2.2.2.1)), ck_t h.k8, ck_t h.k8, nm_s, show gI P (B + 59) 4 = nI f from h.2.1.1, show (8 : Int32) = nI 8 from rfl, pk_mul, nI_add]; rfl
  rw [e, bd_s]
  exact h0 _ ⟨sI_hit, h.2.2.2.2.2.2.2.tr ⟨rfl, fun b b1 b2 b3 => sI_ne b1, fun j hj => sI_oth (by omega)⟩⟩
theorem ok_01 {r : Int32} (h : r = 0 ∨ r = 1) {Ψ : Int32 → Mm → Prop} (hp : Ψ r M) : Ok (ck (r = 0 ∨ r = 1) (some (r, M))) Ψ := by
  rw [ck_t h]; exact Ok_some.mpr hp
theorem wd_k (h : wdT n tp f ≠ 0) : tkK n tp f ≠ 0 ∧ tkK n tp f ≠ 4 := by
  have := (wd_1 h).1
  omega
/-! a word -/
theorem c_word {β : Type} {k : Nat → Ou} {kc : Int32 → Mm → Option (β × Mm)} {Ψ : Ou → β → Mm → Prop} (i x : Nat) (hi : i < 14) (hx : owL.getD i 0 = x) (h : CP B d n tp M0 f0 f T S l w g v M) (h0 : ∀ e N, Fc B d M0 e N → Ok (kc (nI 0) N) (Ψ (.inl e))) (h1 : ∀ N, CP B d n tp M0 f0 (nxT n tp f) T S l w g v N → Ok (kc (nI 1) N) (Ψ (k (nxT n tp f)))) : Ok (bd (f_X3_word (B + 28) i M) kc) (Ψ (oW n tp x f k)) := by
  have sp := c_spells h.1 h.2.1 h.2.2.1.2.1 hi
  rw [hx] at sp
  have xp := (cs_ok i hi).2.2.1
  rw [hx] at xp
  rw [f_X3_word, ck_t h.k3, sp, bd_s, oW]
  by_cases e : wdT n tp f = x
  · rw [if_pos e, if_pos e, if_pos (by decide), ck_t h.k3, Ok_bd]
    refine c_adv2 h (wd_k (by omega)) (fun N q => ?_)
    exact Ok_some.mpr (h1 N q)
  · rw [if_neg e, if_neg e, if_neg (by decide), ck_t h.k3, Ok_bd]
    refine c_ref 1 h (fun N q => ?_)
    exact ok_01 (Or.inl rfl) (h0 _ N q)
theorem r_takes {β : Type} {k : Nat → Ou} {kc : Int32 → Mm → Option (β × Mm)} {Ψ : Ou → β → Mm → Prop} (x : Nat) (hx : 0 < x) (hx2 : x < 2 ^ 30) (h : RP B n tp P0 f0 f T S l w g v P) (h0 : ∀ e Q, Fr B P0 e Q → Ok (kc (nI 0) Q) (Ψ (.inl e))) (h1 : ∀ Q, RP B n tp P0 f0 (nxT n tp f) T S l w g v Q → KTk B P Q → Ok (kc (nI 1) Q) (Ψ (k (nxT n tp f)))) : Ok (bd (f_X8_takes (B + 59) (nI x) P) kc) (Ψ (oW n tp x f k)) := by
  rw [f_X8_takes, ck_t h.k8, r_is h.1 h.2.1 hx hx2, bd_s, oW]
  by_cases e : wdT n tp f = x
  · rw [if_pos e, if_pos e, if_pos (by decide), ck_t h.k8, Ok_bd]
    refine r_go2 h (fun Q q q2 => ?_)
    exact Ok_some.mpr (h1 Q q q2)
  · rw [if_neg e, if_neg e, if_neg (by decide), ck_t h.k8, Ok_bd]
    refine r_bad 1 h (fun Q q => ?_)
    exact ok_01 (Or.inl rfl) (h0 _ Q q)
/-! a sign -/
theorem c_sign {β : Type} {k : Nat → Ou} {kc : Int32 → Mm → Option (β × Mm)} {Ψ : Ou → β → Mm → Prop} (h : CP B d n tp M0 f0 f T S l w g v M) (h0 : ∀ e N, Fc B d M0 e N → Ok (kc (nI 0) N) (Ψ (.inl e))) (h1 : ∀ N, f < nxT n tp f → CP B d n tp M0 f0 (nxT n tp f) T S l w g v N → Ok (kc (nI 1) N) (Ψ (k (nxT n tp f)))) : Ok (bd (f_X3_sign (B + 28) M) kc) (Ψ (oS n tp f k)) := by
  have c3 := tkC_3 (n := n) (tp := tp) (f := f)
  have t2 : gI M (B + 28) 4 = nI (tkC n tp f) := h.2.1.2.1
  rw [f_X3_sign, ck_t h.k3, t2, oS]
  by_cases e : tkK n tp f = 3
  · have e2 : tkC n tp f = 3 := by unfold tkC; rw [e, if_neg (by decide)]
    rw [e2, if_pos e, if_pos (by decide), ck_t h.k3, Ok_bd]
    refine c_adv2 h (by omega) (fun N q => ?_)
    exact Ok_some.mpr (h1 N (nx_lt h.2.2.1.2.1 (by omega)) q)
  · have e2 : tkC n tp f ≠ 3 := by
      unfold tkC
      split <;> omega
    rw [if_neg e, if_neg (by rw [show (3 : Int32) = nI 3 from rfl, nI_eq (by omega) (by omega)]; exact e2), ck_t h.k3, Ok_bd]
    refine c_ref 1 h (fun N q => ?_)
    exact ok_01 (Or.inl rfl) (h0 _ N q)
/-! a number -/
theorem nv_rng (h : inN n tp f lo hi) (hk : tkK n tp f = 2) : nvT n tp f < 100000 ∧ lo ≤ nvT n tp f ∧ nvT n tp f ≤ hi := ⟨nv_lt hk h.1, h.2.1, h.2.2⟩
theorem c_fits {β : Type} {k : Nat → Ou} {kc : Int32 → Mm → Option (β × Mm)} {Ψ : Ou → β → Mm → Prop} (lo hi : Nat) (hlo : lo < 2 ^ 30) (hhi : hi < 2 ^ 30) (h : CP B d n tp M0 f0 f T S l w g v M) (h0 : ∀ e N, Fc B d M0 e N → Ok (kc (nI 0) N) (Ψ (.inl e))) (h1 : ∀ x, x = nvT n tp f → tkK n tp f = 2 → gI M (B + 28) 7 = nI x → lo ≤ x → x ≤ hi → Ok (kc (nI 1) M) (Ψ (k x))) : Ok (bd (f_X3_fits (B + 28) (nI lo) (nI hi) M) kc) (Ψ (oF n tp lo hi f k)) := by
  have c3 := tkC_3 (n := n) (tp := tp) (f := f)
  have t2 : gI M (B + 28) 4 = nI (tkC n tp f) := h.2.1.2.1
  rw [f_X3_fits, ck_t h.k3, t2, oF]
  by_cases e : tkK n tp f = 2
  · have e2 : tkC n tp f = 2 := by unfold tkC; rw [e, if_neg (by decide)]
    have nv : gI M (B + 28) 7 = if lnT n tp f ≤ 5 then nI (nvT n tp f) else -nI 1 := c_num h.2.1 e
    rw [e2, if_pos e, if_pos (by decide), ck_t h.k3]
    by_cases e5 : lnT n tp f ≤ 5
    · rw [if_pos e5] at nv
      have lt := nv_lt e e5
      by_cases a1 : nvT n tp f < lo
      · rw [if_pos (by rw [nv, nI_ltI (by omega) (by omega)]; exact a1), if_neg (show ¬ inN n tp f lo hi from fun z => by have := z.2.1; omega), ck_t h.k3, Ok_bd]
        refine c_ref 4 h (fun N q => ?_)
        exact ok_01 (Or.inl rfl) (h0 _ N q)
      · rw [if_neg (by rw [nv, nI_ltI (by omega) (by omega)]; exact a1), ck_t h.k3]
        by_cases a2 : hi < nvT n tp f
        · rw [if_pos (by rw [nv, nI_ltI (by omega) (by omega)]; exact a2), if_neg (show ¬ inN n tp f lo hi from fun z => by have := z.2.2; omega), ck_t h.k3, Ok_bd]
          refine c_ref 4 h (fun N q => ?_)
          exact ok_01 (Or.inl rfl) (h0 _ N q)
        · rw [if_neg (by rw [nv, nI_ltI (by omega) (by omega)]; exact a2), if_pos (show inN n tp f lo hi from ⟨e5, by omega, by omega⟩), bd_s]
          exact h1 _ rfl e nv (by omega) (by omega)
    · rw [if_neg e5] at nv
      have m1 : (-nI 1).toInt = -1 := by decide
      rw [if_pos (by rw [nv, fa_lt, nI_toInt (by omega), m1]; omega), if_neg (show ¬ inN n tp f lo hi from fun z => e5 z.1), ck_t h.k3, Ok_bd]
      refine c_ref 4 h (fun N q => ?_)
      exact ok_01 (Or.inl rfl) (h0 _ N q)
  · have e2 : tkC n tp f ≠ 2 := by
      unfold tkC
      split <;> omega
    rw [if_neg e, if_neg (by rw [show (2 : Int32) = nI 2 from rfl, nI_eq (by omega) (by omega)]; exact e2), ck_t h.k3, Ok_bd]
    refine c_ref 1 h (fun N q => ?_)
    exact ok_01 (Or.inl rfl) (h0 _ N q)
theorem r_numberAt {β : Type} {k : Nat → Ou} {kc : Int32 → Mm → Option (β × Mm)} {Ψ : Ou → β → Mm → Prop} (lo hi : Nat) (hlo : lo < 2 ^ 30) (hhi : hi < 2 ^ 30) (h : RP B n tp P0 f0 f T S l w g v P) (h0 : ∀ e Q, Fr B P0 e Q → Ok (kc (nI 0) Q) (Ψ (.inl e))) (h1 : ∀ x, x = nvT n tp f → tkK n tp f = 2 → gI P (B + 59) 7 = nI x → lo ≤ x → x ≤ hi → Ok (kc (nI 1) P) (Ψ (k x))) : Ok (bd (f_X8_numberAt (B + 59) (nI lo) (nI hi) P) kc) (Ψ (oF n tp lo hi f k)) := by
  have k4 : tkK n tp f ≤ 4 := by unfold tkK; (repeat' split) <;> omega
  have t2 : gI P (B + 59) 6 = nI (tkK n tp f) := h.2.1.2.2.1
  rw [f_X8_numberAt, ck_t h.k8, t2, oF]
  by_cases e : tkK n tp f = 2
  · have nv : gI P (B + 59) 7 = if lnT n tp f ≤ 5 then nI (nvT n tp f) else -nI 1 := r_num h.2.1 e
    rw [if_pos e, e, if_pos (by decide), ck_t h.k8, nI_l (n := lo) (by omega), nI_l (n := hi) (by omega), wiN _ (by omega) (by omega), bd_s]
    have m1 : (-nI 1).toInt = -1 := by decide
    by_cases e5 : inN n tp f lo hi
    · have lt := nv_lt e e5.1
      have a1 := e5.2.1
      have a2 := e5.2.2
      rw [if_pos e5.1] at nv
      have z : (if gI P (B + 59) 7 < nI lo then nI 0 else if nI hi < gI P (B + 59) 7 then nI 0 else nI 1) = nI 1 := by
        rw [nv, if_neg (by rw [nI_ltI (by omega) (by omega)]; omega), if_neg (by rw [nI_ltI (by omega) (by omega)]; omega)]
      rw [z, if_pos (by decide), if_pos e5, bd_s]
      exact h1 _ rfl e nv a1 a2
    · have z : (if gI P (B + 59) 7 < nI lo then nI 0 else if nI hi < gI P (B + 59) 7 then nI 0 else nI 1) = nI 0 := by
        by_cases b5 : lnT n tp f ≤ 5
        · have lt := nv_lt e b5
          rw [if_pos b5] at nv
          rw [nv]
          by_cases a1 : nvT n tp f < lo
          · rw [if_pos (by rw [nI_ltI (by omega) (by omega)]; exact a1)]
          · rw [if_neg (by rw [nI_ltI (by omega) (by omega)]; exact a1), if_pos (by
              rw [nI_ltI (by omega) (by omega)]
              by_cases a2 : hi < nvT n tp f
              · exact a2
              · exact absurd ⟨b5, by omega, by omega⟩ e5)]
        · rw [if_neg b5] at nv
          rw [nv, if_pos (by rw [fa_lt, nI_toInt (by omega), m1]; omega)]
      rw [z, if_neg (by decide), if_neg e5, ck_t h.k8, Ok_bd]
      refine r_bad 4 h (fun Q q => ?_)
      rw [if_pos (by decide)]
      exact Ok_some.mpr (h0 _ Q q)
  · rw [if_neg e, if_neg (by rw [show (2 : Int32) = nI 2 from rfl, nI_eq (by omega) (by omega)]; exact e), ck_t h.k8, Ok_bd]
    refine r_bad 1 h (fun Q q => ?_)
    exact ok_01 (Or.inl rfl) (h0 _ Q q)
end TY4
