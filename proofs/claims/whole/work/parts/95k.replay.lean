/-! replayed -/
def lotP (S : Nat → Nat) (l y r k : Nat) : Bool := decide (S (480 + 60 * l + k) = y) && decide (S (720 + 60 * l + k) = r)
def rpS (S : Nat → Nat) (l y n : Nat) : Nat → (Nat → Bool) → Nat → Nat → Nat
  | 0, _, _, s => s
  | d + 1, p, x, s => if fnd (lotP S l y (s + 1)) n 0 = some (kt p n (tuS x % fb_ct p n)) then rpS S l y n d (rmv p (kt p n (tuS x % fb_ct p n))) (tuS x) (s + 1) else s
def SD (B : Nat) (M : Mm) (p : Nat → Bool) (n : Nat) : Prop := ∀ k, k < n → M.1 (B + 69) (k + 1) = nI (if p k = true then 1 else 0)
def K9 (B : Nat) (M N : Mm) : Prop := N.2 = M.2 ∧ ∀ a, a ≠ B + 69 → N.1 a = M.1 a
section REP
variable {B t c l : Nat} {T S : Nat → Nat} {M N P : Mm} {p : Nat → Bool} {n : Nat} {x y z : Int32}
theorem K9.tr (h : K9 B M N) (g : K9 B N P) : K9 B M P := ⟨g.1.trans h.1, fun a h1 => (g.2 a h1).trans (h.2 a h1)⟩
theorem K9.rq (h : K9 B M N) (hR : RQ B M T S c) : RQ B N T S c := hR.keep (by rw [h.1]) (h.2 _ (by omega)) (h.2 _ (by omega))
theorem K9.kr (h : K9 B M N) : KR B M N := ⟨by rw [h.1], fun a _ _ h3 => h.2 a h3, by rw [h.2 _ (by omega)], by rw [h.2 _ (by omega)], by rw [h.1]⟩
theorem KD.cq (h : KD B M N) (hQ : CQ B t M T S c) (ht : t + 14 ≤ B + 44) : CQ B t N T S c := hQ.kp ht (by rw [h.1]) (fun a ha => h.2 a (by omega) (by omega))
theorem KD.kc (h : KD B M N) : KC B M N := ⟨by rw [h.1], fun a ha => h.2 a (by omega) (by omega), by rw [h.1]⟩
theorem vb0 : vp_nar .boolean (nI 0) = nI 0 := by decide
theorem of_eq0 {k : Nat} {q : Option Nat} (hk : k < 60) (hq : ∀ j, q = some j → j < 60) : (nI (k + 1) = ofnd (nI 0) q) ↔ q = some k := by
  cases q with
  | none =>
    refine ⟨fun h => ?_, fun h => by cases h⟩
    have h2 : nI (k + 1) = nI 0 := h
    rw [nI_eq (by omega) (by omega)] at h2
    omega
  | some j =>
    have hj := hq j rfl
    show nI (k + 1) = nI (j + 1) ↔ _
    rw [nI_eq (by omega) (by omega)]
    constructor
    · intro h; rw [show j = k by omega]
    · intro h; cases h; rfl
theorem of_eq1 {k : Nat} {q : Option Nat} (hk : k < 60) (hq : ∀ j, q = some j → j < 60) : (ofnd (-nI 1) q = nI (k + 1)) ↔ q = some k := by
  cases q with
  | none =>
    refine ⟨fun h => ?_, fun h => by cases h⟩
    have h2 : -nI 1 = nI (k + 1) := h
    exact absurd h2.symm (neg1_ne (by omega))
  | some j =>
    have hj := hq j rfl
    show nI (j + 1) = nI (k + 1) ↔ _
    rw [nI_eq (by omega) (by omega)]
    constructor
    · intro h; rw [show j = k by omega]
    · intro h; cases h; rfl
theorem rmv_ct {k : Nat} (hp : p k = true) (hk : k < n) : fb_ct (rmv p k) n = fb_ct p n - 1 := by
  have := rmv_gt (p := p) (k := k) (j := n) hp hk
  omega
theorem p_rep_lp (ht : t + 14 ≤ B + 44) (hl : l < T 0) {yy due : Nat} (hy : yy < 100) (hd : due ≤ 60) : ∀ (d s x m : Nat) (p : Nat → Bool) (M : Mm), s + d = due → d < m → x ≤ 2147483646 → CQ B t M T S c → DR B M p (T (12 + 7 * l)) → M.1 (B + 53) 2 = nI x → d ≤ fb_ct p (T (12 + 7 * l)) → ∃ N, f_X7_replayed_78 m B (nI l) (nI yy) (nI due) (nI s) M = some (nI (rpS S l yy (T (12 + 7 * l)) d p x s), N) ∧ KD B M N := by
  intro d
  induction d with
  | zero =>
    intro s x m p M hs hm hx hQ hD h2 hL
    obtain ⟨m, rfl⟩ : ∃ q, m = q + 1 := ⟨m - 1, by omega⟩
    have e : due ≤ s := by omega
    refine ⟨M, ?_, ⟨rfl, fun _ _ _ => rfl⟩⟩
    simp (disch := omega) only [f_X7_replayed_78, reduceIte, ↓reduceIte, ↓ck_i, ↓nm_s, ↓bR_i, ↓bd_i, Option.isSome_some, Option.getD_some, gK, gR, gN, gIs, inb_nI, and_self, nI_clamp, fa_lit, pk_mul, nI_add, n10, n1z, n00, eq_self, not_true_eq_false, not_false_eq_true, nI_leI, e, rpS]
  | succ d ih =>
    intro s x m p M hs hm hx hQ hD h2 hL
    obtain ⟨m, rfl⟩ : ∃ q, m = q + 1 := ⟨m - 1, by omega⟩
    have w := (hQ.2.2.2.2.1.2.2 l hl).2.1
    have e : ¬ due ≤ s := by omega
    have hC : CmD B M.2.2 := hQ.1
    obtain ⟨N, eN, n1, n2, n3⟩ := p_draw hC hD w hx h2 (by omega)
    have hQN := n3.cq hQ ht
    have hCN : CmD B N.2.2 := hQN.1
    have da := p_drawnAs hQN hl (y := yy) (r := s + 1) (by omega) (by omega)
    have da2 : f_X5_drawnAs (B + 15) t (nI l) (nI yy) (nI (s + 1)) N = some (ofnd (nI 0) (fnd (lotP S l yy (s + 1)) (T (12 + 7 * l)) 0), N) := da
    have hm2 := Nat.mod_lt (tuS x) (show 0 < fb_ct p (T (12 + 7 * l)) by omega)
    obtain ⟨k1, k2, k3⟩ := kt_spec hm2
    have ct := rmv_ct (p := p) (n := T (12 + 7 * l)) k2 k1
    have ofe := of_eq0 (k := kt p (T (12 + 7 * l)) (tuS x % fb_ct p (T (12 + 7 * l)))) (q := fnd (lotP S l yy (s + 1)) (T (12 + 7 * l)) 0) (by omega) (fun j hj => by have := fnd_lt hj; omega)
    rw [rpS]
    by_cases hf : fnd (lotP S l yy (s + 1)) (T (12 + 7 * l)) 0 = some (kt p (T (12 + 7 * l)) (tuS x % fb_ct p (T (12 + 7 * l))))
    · obtain ⟨P, eP, p1⟩ := ih (s + 1) (tuS x) m _ N (by omega) (by omega) (tuS_le x) hQN n1 n2 (by omega)
      refine ⟨P, ?_, n3.tr p1⟩
      rw [if_pos hf, ← eP]
      have hf2 := ofe.mpr hf
      rw [hf2] at eN
      simp (disch := omega) only [f_X7_replayed_78, reduceIte, ↓reduceIte, ↓ck_i, ↓nm_s, ↓bR_i, ↓bd_i, Option.isSome_some, Option.getD_some, gK, gR, gN, gIs, inb_nI, and_self, nI_clamp, fa_lit, pk_mul, nI_add, n10, n1z, n00, eq_self, not_true_eq_false, not_false_eq_true, nI_leI, e, hC.a, hCN.a, hQN.2.1, hQN.2.2.2.1, eN, da2]
    · refine ⟨N, ?_, n3⟩
      rw [if_neg hf]
      have hf2 : ¬ nI (kt p (T (12 + 7 * l)) (tuS x % fb_ct p (T (12 + 7 * l))) + 1) = ofnd (nI 0) (fnd (lotP S l yy (s + 1)) (T (12 + 7 * l)) 0) := fun h => hf (ofe.mp h)
      simp (disch := omega) only [f_X7_replayed_78, reduceIte, ↓reduceIte, ↓ck_i, ↓nm_s, ↓bR_i, ↓bd_i, Option.isSome_some, Option.getD_some, gK, gR, gN, gIs, inb_nI, and_self, nI_clamp, fa_lit, pk_mul, nI_add, n10, n1z, n00, eq_self, not_true_eq_false, not_false_eq_true, nI_leI, e, hC.a, hCN.a, hQN.2.1, hQN.2.2.2.1, eN, da2, hf2]
theorem q_turns {x : Nat} (hx : x ≤ 2147483646) : f_X8_turns (nI x) M = some (nI (tuS x), M) := by
  rw [f_X8_turns, ck_t (by decide), tu_eq hx]
theorem q_find (hD : RfD B M.2.2) (hs : SD B M p n) (hn : n ≤ 60) {r146 : Nat → Int32 → Int32 → Int32 → Int32 → Int32 → Int32 → Mm → Option (Int32 × Mm)} {x1 x2 x4 x5 x6 x7 : Int32} {K i : Nat} (hK : K < n) (pK : p K = true) (cK : fb_ct p K = i) : ∀ (d k m : Nat), k + d = K → d < m → ∃ q, f_X8_replayed_170 r146 m (B + 59) x1 x2 x4 x5 x6 x7 (nI (i - fb_ct p k)) (nI k) M = f_X8_replayed_190 r146 (f_X8_replayed_170 r146 q) (B + 59) x1 x2 x4 x5 x6 x7 (nI (K + 1)) (nI 1) (nI 0) M := by
  have hle := fb_ct_le p K
  intro d
  induction d with
  | zero =>
    intro k m hk hm
    obtain ⟨m, rfl⟩ : ∃ q, m = q + 1 := ⟨m - 1, by omega⟩
    have hk : k = K := by omega
    subst hk
    have v := hs k hK
    rw [if_pos pK] at v
    refine ⟨m, ?_⟩
    rw [cK, Nat.sub_self]
    simp (disch := omega) only [f_X8_replayed_170, reduceIte, ↓reduceIte, ↓ck_i, ↓nm_s, ↓bR_i, ↓bd_i, Option.isSome_some, Option.getD_some, gK, gR, gN, gIs, inb_nI, and_self, nI_clamp, fa_lit, pk_mul, nI_add, n10, n1z, n00, eq_self, not_true_eq_false, not_false_eq_true, hD.a, v]
  | succ d ih =>
    intro k m hk hm
    obtain ⟨m, rfl⟩ : ∃ q, m = q + 1 := ⟨m - 1, by omega⟩
    obtain ⟨q, ih⟩ := ih (k + 1) m (by omega) (by omega)
    refine ⟨q, ?_⟩
    rw [← ih]
    have mo := fb_ct_mono p (m := k + 1) (n := K) (by omega)
    rw [fb_ct_succ] at mo ⊢
    have v := hs k (by omega)
    by_cases hp : p k = true
    · rw [if_pos hp] at v mo ⊢
      have e0 : 0 ≤ i - fb_ct p k - 1 := by omega
      have e1 : i - fb_ct p k - 1 = i - (fb_ct p k + 1) := by omega
      simp (disch := omega) only [f_X8_replayed_170, f_X8_replayed_190, reduceIte, ↓reduceIte, ↓ck_i, ↓nm_s, ↓bR_i, ↓bd_i, Option.isSome_some, Option.getD_some, gK, gR, gN, gIs, inb_nI, and_self, nI_clamp, fa_lit, pk_mul, nI_add, n10, n1z, n00, eq_self, not_true_eq_false, not_false_eq_true, hD.a, v, pk_sub, nI_leI, Nat.zero_le, e1]
    · rw [if_neg hp] at v mo ⊢
      have e0 : 0 ≤ i - fb_ct p k := by omega
      simp (disch := omega) only [f_X8_replayed_170, f_X8_replayed_190, reduceIte, ↓reduceIte, ↓ck_i, ↓nm_s, ↓bR_i, ↓bd_i, Option.isSome_some, Option.getD_some, gK, gR, gN, gIs, inb_nI, and_self, nI_clamp, fa_lit, pk_mul, nI_add, n10, n1z, n00, eq_self, not_true_eq_false, not_false_eq_true, hD.a, v, pk_sub, nI_leI, Nat.zero_le, Nat.sub_zero, Nat.add_zero]
theorem q_rep_lp (hl : l < T 0) {yy due : Nat} (hy : yy < 100) (hd : due ≤ 60) : ∀ (d s x m : Nat) (p : Nat → Bool) (M : Mm), s + d = due → d < m → x ≤ 2147483646 → RQ B M T S c → SD B M p (T (12 + 7 * l)) → d ≤ fb_ct p (T (12 + 7 * l)) → ∃ N, f_X8_replayed_146 m (B + 59) (nI l) (nI yy) (nI (fb_ct p (T (12 + 7 * l)))) (nI x) (nI due) (nI (s + 1)) M = some (nI (rpS S l yy (T (12 + 7 * l)) d p x s), N) ∧ K9 B M N := by
  intro d
  induction d with
  | zero =>
    intro s x m p M hs hm hx hR hS hL
    obtain ⟨m, rfl⟩ : ∃ q, m = q + 1 := ⟨m - 1, by omega⟩
    have e : due < s + 1 := by omega
    refine ⟨M, ?_, ⟨rfl, fun _ _ => rfl⟩⟩
    rw [rpS, show s = due by omega]
    rw [show s = due by omega] at e
    simp (disch := omega) only [f_X8_replayed_146, reduceIte, ↓reduceIte, ↓ck_i, ↓nm_s, ↓bR_i, ↓bd_i, Option.isSome_some, Option.getD_some, gK, gR, gN, gIs, inb_nI, and_self, nI_clamp, fa_lit, pk_mul, nI_add, n10, n1z, n00, eq_self, not_true_eq_false, not_false_eq_true, nI_ltI, e]
  | succ d ih =>
    intro s x m p M hs hm hx hR hS hL
    obtain ⟨m, rfl⟩ : ∃ q, m = q + 1 := ⟨m - 1, by omega⟩
    have w := (hR.2.2.2.1.2.2 l hl).2.1
    have w0 := hR.2.2.2.1.1
    have e : ¬ due < s + 1 := by omega
    have hD : RfD B M.2.2 := hR.1
    have cle := fb_ct_le p (T (12 + 7 * l))
    have L0 : 0 < fb_ct p (T (12 + 7 * l)) := by omega
    have hm2 := Nat.mod_lt (tuS x) L0
    obtain ⟨k1, k2, k3⟩ := kt_spec hm2
    have ct := rmv_ct (p := p) (n := T (12 + 7 * l)) k2 k1
    have tl := tuS_le x
    have qt := q_turns (M := M) hx
    have nz : ¬ nI (fb_ct p (T (12 + 7 * l))) = nI 0 := by rw [nI_eq (by omega) (by omega)]; omega
    have pr := pk_rem (a := tuS x) (d := fb_ct p (T (12 + 7 * l))) (by omega) L0 (by omega)
    obtain ⟨q, fq⟩ := q_find hD hS w (r146 := f_X8_replayed_146 m) (x1 := nI l) (x2 := nI yy) (x4 := nI (fb_ct p (T (12 + 7 * l)))) (x5 := nI (tuS x)) (x6 := nI due) (x7 := nI (s + 1)) k1 k2 k3 (kt p (T (12 + 7 * l)) (tuS x % fb_ct p (T (12 + 7 * l)))) 0 FU (by omega) (by unfold FU; omega)
    have f0 : fb_ct p 0 = 0 := rfl
    rw [f0, Nat.sub_zero] at fq
    have il := q_inLot hR hl (y := yy) (r := s + 1) (by omega) (by omega)
    have il2 : f_X8_inLot (B + 59) (nI l) (nI yy) (nI (s + 1)) M = some (ofnd (-nI 1) (fnd (lotP S l yy (s + 1)) (T (12 + 7 * l)) 0), M) := il
    have st : f_X8_replayed_146 (m + 1) (B + 59) (nI l) (nI yy) (nI (fb_ct p (T (12 + 7 * l)))) (nI x) (nI due) (nI (s + 1)) M = f_X8_replayed_190 (f_X8_replayed_146 m) (f_X8_replayed_170 (f_X8_replayed_146 m) q) (B + 59) (nI l) (nI yy) (nI (fb_ct p (T (12 + 7 * l)))) (nI (tuS x)) (nI due) (nI (s + 1)) (nI (kt p (T (12 + 7 * l)) (tuS x % fb_ct p (T (12 + 7 * l))) + 1)) (nI 1) (nI 0) M := by
      rw [← fq, f_X8_replayed_146, if_neg (by rw [nI_ltI (by omega) (by omega)]; exact e), qt, bd_s, ck_t (show ¬ nI (fb_ct p (T (12 + 7 * l))) = 0 from nz), nm_s, pr, show (0 : Int32) = nI 0 from rfl]
    rw [st]
    clear st fq
    have ofe := of_eq1 (k := kt p (T (12 + 7 * l)) (tuS x % fb_ct p (T (12 + 7 * l)))) (q := fnd (lotP S l yy (s + 1)) (T (12 + 7 * l)) 0) (by omega) (fun j hj => by have := fnd_lt hj; omega)
    have n01 : ¬ nI 0 ≤ nI 0 - nI 1 := by decide
    generalize hk : kt p (T (12 + 7 * l)) (tuS x % fb_ct p (T (12 + 7 * l))) = k at *
    rw [rpS, hk]
    by_cases hf : fnd (lotP S l yy (s + 1)) (T (12 + 7 * l)) 0 = some k
    · have kk : K9 B M (sI M (B + 69) (k + 1) (nI 0)) := ⟨rfl, fun a ha => sI_ne ha⟩
      obtain ⟨P, eP, p1⟩ := ih (s + 1) (tuS x) m (rmv p k) (sI M (B + 69) (k + 1) (nI 0)) (by omega) (by omega) tl (kk.rq hR) (fun j hj => by
        unfold rmv
        by_cases e2 : j = k
        · subst e2; rw [sI_hit, if_pos rfl]; rfl
        · rw [sI_oth (by omega), if_neg e2]; exact hS j hj) (by omega)
      refine ⟨P, ?_, kk.tr p1⟩
      rw [if_pos hf, ← eP, ct]
      have hf2 := ofe.mpr hf
      rw [hf2] at il2
      simp (disch := omega) only [f_X8_replayed_190, reduceIte, ↓reduceIte, ↓ck_i, ↓nm_s, ↓bR_i, ↓bd_i, Option.isSome_some, Option.getD_some, gK, gR, gN, gIs, inb_nI, and_self, nI_clamp, fa_lit, pk_mul, nI_add, n10, n1z, n00, eq_self, not_true_eq_false, not_false_eq_true, n01, hD.a, il2, vb0, m1_add, pk_sub]
    · refine ⟨M, ?_, ⟨rfl, fun _ _ => rfl⟩⟩
      rw [if_neg hf]
      have hf2 : ¬ ofnd (-nI 1) (fnd (lotP S l yy (s + 1)) (T (12 + 7 * l)) 0) = nI (k + 1) := fun h => hf (ofe.mp h)
      simp (disch := omega) only [f_X8_replayed_190, reduceIte, ↓reduceIte, ↓ck_i, ↓nm_s, ↓bR_i, ↓bd_i, Option.isSome_some, Option.getD_some, gK, gR, gN, gIs, inb_nI, and_self, nI_clamp, fa_lit, pk_mul, nI_add, n10, n1z, n00, eq_self, not_true_eq_false, not_false_eq_true, n01, hD.a, il2, hf2, pk_sub, Nat.add_sub_cancel]
/-- the reference sees who stood -/
theorem q_stood_lp (hl : l < T 0) {yy : Nat} (hy : yy < 100) {v : Int32} {R : Option (Int32 × Mm) → Mm → Prop} (hfin : ∀ (m : Nat) (N : Mm), RQ B N T S c → SD B N (stp S l yy) (T (12 + 7 * l)) → K9 B M N → R (f_X8_replayed_33 (m + 1) (B + 59) (nI l) (nI yy) v (nI (fb_ct (stp S l yy) (T (12 + 7 * l)))) (nI (T (12 + 7 * l) + 1)) N) N) : ∀ (d k m : Nat) (N : Mm), k + d = T (12 + 7 * l) → d < m → RQ B N T S c → K9 B M N → (∀ j, j < k → N.1 (B + 69) (j + 1) = nI (if stp S l yy j = true then 1 else 0)) → ∃ Q, R (f_X8_replayed_33 m (B + 59) (nI l) (nI yy) v (nI (fb_ct (stp S l yy) k)) (nI (k + 1)) N) Q := by
  intro d
  induction d with
  | zero =>
    intro k m N hk hm hR k9 h
    obtain ⟨m, rfl⟩ : ∃ q, m = q + 1 := ⟨m - 1, by omega⟩
    have hk : k = T (12 + 7 * l) := by omega
    subst hk
    exact ⟨N, hfin m N hR h k9⟩
  | succ d ih =>
    intro k m N hk hm hR k9 h
    obtain ⟨m, rfl⟩ : ∃ q, m = q + 1 := ⟨m - 1, by omega⟩
    have w := (hR.2.2.2.1.2.2 l hl).2.1
    have w0 := hR.2.2.2.1.1
    have hk2 : ¬ T (12 + 7 * l) < k + 1 := by omega
    have lo := q_loanOf hR hl (w := 0) (by omega)
    have s8 := hR.2.2.1 (480 + 60 * l + k) (by omega)
    have y60 := hR.2.2.2.2.1.1
    have v8 := (hR.2.2.2.2.1.2.2.2.2.1 l hl k (by omega)).2.2.2.1
    have a4 : 480 + (60 * l + k) = 480 + 60 * l + k := by omega
    have hD : RfD B N.2.2 := hR.1
    have go : ∀ (b : Nat), b = (if stp S l yy k = true then 1 else 0) → f_X8_replayed_33 (m + 1) (B + 59) (nI l) (nI yy) v (nI (fb_ct (stp S l yy) k)) (nI (k + 1)) N = f_X8_replayed_33 m (B + 59) (nI l) (nI yy) v (nI (fb_ct (stp S l yy) k + b)) (nI (k + 1 + 1)) (sI N (B + 69) (k + 1) (nI b)) → ∃ Q, R (f_X8_replayed_33 (m + 1) (B + 59) (nI l) (nI yy) v (nI (fb_ct (stp S l yy) k)) (nI (k + 1)) N) Q := fun b hb e => by
      have kk : K9 B N (sI N (B + 69) (k + 1) (nI b)) := ⟨rfl, fun a ha => sI_ne ha⟩
      obtain ⟨Q, hQ⟩ := ih (k + 1) m (sI N (B + 69) (k + 1) (nI b)) (by omega) (by omega) (kk.rq hR) (k9.tr kk) (fun j hj => by
        by_cases e2 : j = k
        · subst e2; rw [sI_hit, hb]
        · rw [sI_oth (by omega)]; exact h j (by omega))
      rw [fb_ct_succ, ← hb] at hQ
      exact ⟨Q, by rw [e]; exact hQ⟩
    by_cases z : S (480 + 60 * l + k) = 0
    · have hp : stp S l yy k = true := by unfold stp; rw [decide_eq_true z]; rfl
      rw [z] at s8
      refine go 1 (by rw [if_pos hp]) ?_
      simp (disch := omega) only [f_X8_replayed_33, f_X8_replayed_83, reduceIte, ↓reduceIte, ↓ck_i, ↓nm_s, ↓bR_i, ↓bd_i, Option.isSome_some, Option.getD_some, gK, gR, gN, gIs, inb_nI, and_self, nI_clamp, fa_lit, pk_mul, nI_add, n10, n1z, n00, eq_self, not_true_eq_false, not_false_eq_true, hD.a, lo, Nat.add_zero, nI_ltI, hk2, p_bondAt, a4, s8, vb1, sI_sh, sI_hit]
    · by_cases z2 : S (480 + 60 * l + k) < yy
      · have hp : ¬ stp S l yy k = true := by unfold stp; rw [decide_eq_false z, decide_eq_false (by omega)]; decide
        refine go 0 (by rw [if_neg hp]) ?_
        simp (disch := omega) only [f_X8_replayed_33, f_X8_replayed_83, reduceIte, ↓reduceIte, ↓ck_i, ↓nm_s, ↓bR_i, ↓bd_i, Option.isSome_some, Option.getD_some, gK, gR, gN, gIs, inb_nI, and_self, nI_clamp, fa_lit, pk_mul, nI_add, n10, n1z, n00, eq_self, not_true_eq_false, not_false_eq_true, hD.a, lo, Nat.add_zero, nI_ltI, nI_eq, hk2, p_bondAt, a4, s8, z, z2, vb0, sI_sh, sI_hit]
      · have hp : stp S l yy k = true := by unfold stp; rw [decide_eq_true (show yy ≤ S (480 + 60 * l + k) by omega)]; simp
        refine go 1 (by rw [if_pos hp]) ?_
        simp (disch := omega) only [f_X8_replayed_33, f_X8_replayed_83, reduceIte, ↓reduceIte, ↓ck_i, ↓nm_s, ↓bR_i, ↓bd_i, Option.isSome_some, Option.getD_some, gK, gR, gN, gIs, inb_nI, and_self, nI_clamp, fa_lit, pk_mul, nI_add, n10, n1z, n00, eq_self, not_true_eq_false, not_false_eq_true, hD.a, lo, Nat.add_zero, nI_ltI, nI_eq, hk2, p_bondAt, a4, s8, z, z2, vb1, sI_sh, sI_hit]
theorem due_le {yy n : Nat} (h : 1 ≤ yy) : fb_ct (fun k => decide (S (480 + 60 * l + k) = yy)) n ≤ fb_ct (stp S l yy) n := fb_ct_sub (fun k _ hk => by
  rw [decide_eq_true_eq] at hk
  unfold stp
  rw [decide_eq_true (show yy ≤ S (480 + 60 * l + k) by omega)]
  simp)
theorem q_replay (hR : RQ B M T S c) (hl : l < T 0) {k : Nat} (hk : k < T (12 + 7 * l + 3)) (hky : k + 1 ≤ S 1206) {v : Int32} {x0 : Nat} (hx : x0 ≤ 2147483646) (hv : (v = nI 0 ∧ x0 = S (1299 + 21 * l + (k + 1))) ∨ (v ≠ nI 0 ∧ v = nI x0)) : ∃ P, f_X8_replayed_33 FU (B + 59) (nI l) (nI (k + 1)) v (nI 0) (nI 1) M = some (nI (rpS S l (k + 1) (T (12 + 7 * l)) (fb_ct (fun i => decide (S (480 + 60 * l + i) = k + 1)) (T (12 + 7 * l))) (stp S l (k + 1)) x0 0), P) ∧ K9 B M P := by
  have w := (hR.2.2.2.1.2.2 l hl).2.1
  have w20 := (hR.2.2.2.1.2.2 l hl).2.2.2.2.2.2.1
  have w0 := hR.2.2.2.1.1
  have dle := due_le (S := S) (l := l) (yy := k + 1) (n := T (12 + 7 * l)) (by omega)
  have cle := fb_ct_le (stp S l (k + 1)) (T (12 + 7 * l))
  obtain ⟨Q, P, h1, h2⟩ := q_stood_lp (B := B) (c := c) (M := M) (T := T) (S := S) (l := l) (yy := k + 1) (v := v) (R := fun o _ => ∃ P, o = some (nI (rpS S l (k + 1) (T (12 + 7 * l)) (fb_ct (fun i => decide (S (480 + 60 * l + i) = k + 1)) (T (12 + 7 * l))) (stp S l (k + 1)) x0 0), P) ∧ K9 B M P) hl (by omega) (fun m N hRN hS k9 => by
    have lo := q_loanOf hRN hl (w := 0) (by omega)
    have lm := q_lotMany hRN hl (y := k + 1) (by omega)
    have ah := hRN.2.2.1 (1299 + 21 * l + (k + 1)) (by omega)
    have hD : RfD B N.2.2 := hRN.1
    obtain ⟨P, eP, p1⟩ := q_rep_lp (B := B) (c := c) (T := T) (S := S) hl (yy := k + 1) (due := fb_ct (fun i => decide (S (480 + 60 * l + i) = k + 1)) (T (12 + 7 * l))) (by omega) (by omega) (fb_ct (fun i => decide (S (480 + 60 * l + i) = k + 1)) (T (12 + 7 * l))) 0 x0 FU (stp S l (k + 1)) N (by omega) (by unfold FU; omega) hx hRN hS dle
    rw [show (0 : Nat) + 1 = 1 by omega] at eP
    refine ⟨P, ?_, k9.tr p1⟩
    rw [← eP]
    have eb : T (12 + 7 * l) < T (12 + 7 * l) + 1 := by omega
    rcases hv with ⟨rfl, rfl⟩ | ⟨hne, rfl⟩
    · simp (disch := omega) only [f_X8_replayed_33, reduceIte, ↓reduceIte, ↓ck_i, ↓nm_s, ↓bR_i, ↓bd_i, Option.isSome_some, Option.getD_some, gK, gR, gN, gIs, inb_nI, and_self, nI_clamp, fa_lit, pk_mul, nI_add, n10, n1z, n00, eq_self, not_true_eq_false, not_false_eq_true, hD.a, lo, Nat.add_zero, nI_ltI, eb, ah, lm]
    · simp (disch := omega) only [f_X8_replayed_33, reduceIte, ↓reduceIte, ↓ck_i, ↓nm_s, ↓bR_i, ↓bd_i, Option.isSome_some, Option.getD_some, gK, gR, gN, gIs, inb_nI, and_self, nI_clamp, fa_lit, pk_mul, nI_add, n10, n1z, n00, eq_self, not_true_eq_false, not_false_eq_true, hD.a, lo, Nat.add_zero, nI_ltI, eb, hne, lm]) (T (12 + 7 * l)) 0 FU M (by omega) (by unfold FU; omega) hR ⟨rfl, fun _ _ => rfl⟩ (fun j hj => absurd hj (by omega))
  rw [show (0 : Nat) + 1 = 1 by omega, show fb_ct (stp S l (k + 1)) 0 = 0 from rfl] at h1
  exact ⟨P, h1, h2⟩
theorem p_replay (hQ : CQ B t M T S c) (ht : t + 14 ≤ B + 44) (hB : t ≠ B) (hl : l < T 0) {k : Nat} (hk : k < T (12 + 7 * l + 3)) {x0 : Nat} (hx : x0 ≤ 2147483646) : ∃ N P, f_X1_load (B + 53) t (B + 15) (nI l) (nI (k + 1)) (nI x0) M = some ((), N) ∧ CQ B t N T S c ∧ f_X7_replayed_78 FU B (nI l) (nI (k + 1)) (nI (fb_ct (fun i => decide (S (480 + 60 * l + i) = k + 1)) (T (12 + 7 * l)))) (nI 0) N = some (nI (rpS S l (k + 1) (T (12 + 7 * l)) (fb_ct (fun i => decide (S (480 + 60 * l + i) = k + 1)) (T (12 + 7 * l))) (stp S l (k + 1)) x0 0), P) ∧ KD B M P := by
  have w := (hQ.2.2.2.2.1.2.2 l hl).2.1
  have w20 := (hQ.2.2.2.2.1.2.2 l hl).2.2.2.2.2.2.1
  have dle := due_le (S := S) (l := l) (yy := k + 1) (n := T (12 + 7 * l)) (by omega)
  have cle := fb_ct_le (stp S l (k + 1)) (T (12 + 7 * l))
  obtain ⟨N, eN, n1, n2, n3⟩ := p_load (v := nI x0) hQ.v ht hB hl (y := k + 1) (by omega)
  have hQN := n2.cq hQ ht
  obtain ⟨P, eP, p1⟩ := p_rep_lp (B := B) (t := t) (c := c) (T := T) (S := S) ht hl (yy := k + 1) (due := fb_ct (fun i => decide (S (480 + 60 * l + i) = k + 1)) (T (12 + 7 * l))) (by omega) (by omega) (fb_ct (fun i => decide (S (480 + 60 * l + i) = k + 1)) (T (12 + 7 * l))) 0 x0 FU (stp S l (k + 1)) N (by omega) (by unfold FU; omega) hx hQN n1 n3 dle
  exact ⟨N, P, eN, hQN, eP, n2.tr p1⟩
theorem pr_replayed (hcc : c + 1 ≤ 600) : Pr B c (f_X7_replayed B x y z) (f_X8_replayed (B + 59) x y z) := by
  refine pr_q hcc (fun M t T S hQ hR ht => ?_)
  have w0 := hR.2.2.2.1.1
  have y60 := hR.2.2.2.2.1.1
  have hB : t ≠ B := fun e => by
    have h1 := hQ.2.2.1.1
    have h2 := hQ.1.1
    rw [e] at h1
    rw [h1] at h2
    exact absurd h2 (by decide)
  rcases ixL x (n := T 0) (by omega) with h | ⟨l, hl, rfl⟩
  · exact ⟨-nI 1, M, by simp (disch := omega) only [f_X7_replayed, reduceIte, ↓reduceIte, ↓ck_i, ↓nm_s, ↓bR_i, ↓bd_i, Option.isSome_some, Option.getD_some, gK, gR, gN, gIs, inb_nI, and_self, nI_clamp, fa_lit, pk_mul, nI_add, n10, n1z, n00, eq_self, not_true_eq_false, not_false_eq_true, hQ.1, p_isPassed_0 hQ h], KC.rf, fun _ hR2 hb => ⟨sI M (B + 59) 0 (nI 0), by simp (disch := omega) only [f_X8_replayed, reduceIte, ↓reduceIte, ↓ck_i, ↓nm_s, ↓bR_i, ↓bd_i, Option.isSome_some, Option.getD_some, gK, gR, gN, gIs, inb_nI, and_self, nI_clamp, fa_lit, pk_mul, nI_add, n10, n1z, n00, eq_self, not_true_eq_false, not_false_eq_true, hR.1, hR2.1, q_isPassed_0 hR2 h], KR.th (by omega) (by omega), hb⟩⟩
  have w := (hR.2.2.2.1.2.2 l hl).2.1
  have w20 := (hR.2.2.2.1.2.2 l hl).2.2.2.2.2.2.1
  rcases ixN y (n := T (12 + 7 * l + 3)) (by omega) with h | ⟨k, hk, rfl⟩
  · exact ⟨-nI 1, M, by simp (disch := omega) only [f_X7_replayed, reduceIte, ↓reduceIte, ↓ck_i, ↓nm_s, ↓bR_i, ↓bd_i, Option.isSome_some, Option.getD_some, gK, gR, gN, gIs, inb_nI, and_self, nI_clamp, fa_lit, pk_mul, nI_add, n10, n1z, n00, eq_self, not_true_eq_false, not_false_eq_true, hQ.1, p_isPassed_n hQ hl h], KC.rf, fun _ hR2 hb => ⟨sI M (B + 59) 0 (nI 0), by simp (disch := omega) only [f_X8_replayed, reduceIte, ↓reduceIte, ↓ck_i, ↓nm_s, ↓bR_i, ↓bd_i, Option.isSome_some, Option.getD_some, gK, gR, gN, gIs, inb_nI, and_self, nI_clamp, fa_lit, pk_mul, nI_add, n10, n1z, n00, eq_self, not_true_eq_false, not_false_eq_true, hR.1, hR2.1, q_isPassed_n hR2 hl h], KR.th (by omega) (by omega), hb⟩⟩
  by_cases hy : S 1206 < k + 1
  · exact ⟨-nI 1, M, by simp (disch := omega) only [f_X7_replayed, reduceIte, ↓reduceIte, ↓ck_i, ↓nm_s, ↓bR_i, ↓bd_i, Option.isSome_some, Option.getD_some, gK, gR, gN, gIs, inb_nI, and_self, nI_clamp, fa_lit, pk_mul, nI_add, n10, n1z, n00, eq_self, not_true_eq_false, not_false_eq_true, hQ.1, p_isPassed_m hQ hl hk hy], KC.rf, fun _ hR2 hb => ⟨sI M (B + 59) 0 (nI 0), by simp (disch := omega) only [f_X8_replayed, reduceIte, ↓reduceIte, ↓ck_i, ↓nm_s, ↓bR_i, ↓bd_i, Option.isSome_some, Option.getD_some, gK, gR, gN, gIs, inb_nI, and_self, nI_clamp, fa_lit, pk_mul, nI_add, n10, n1z, n00, eq_self, not_true_eq_false, not_false_eq_true, hR.1, hR2.1, q_isPassed_m hR2 hl hk hy], KR.th (by omega) (by omega), hb⟩⟩
  have hy : k + 1 ≤ S 1206 := by omega
  have hp := p_isPassed_y hQ hl hk hy
  rcases ixL z (n := 2147483647) (by omega) with h | ⟨xx, hxx, rfl⟩
  · have nz := NL_ne (by omega) h (j := 0) (by omega)
    have hN : N1 z 2147483646 := by
      have q1 : (nI 1).toInt = 1 := by decide
      have q0 : (nI 0).toInt = 0 := by decide
      have q6 := nI_toInt (n := 2147483646) (by omega)
      rcases h with h | ⟨h1, h2⟩
      · refine Or.inl ?_
        rw [fa_lt, q1]; rw [fa_lt, q0] at h; omega
      · rw [fa_le, nI_toInt (by omega)] at h2
        refine Or.inr ⟨?_, ?_⟩
        · rw [fa_lt, q1]; omega
        · rw [fa_lt, q6]; omega
    have iw : ∀ M : Mm, f_X8_isWheel z M = some (nI 0, M) := fun M => by
      simp (disch := omega) only [f_X8_isWheel, reduceIte, ↓reduceIte, ↓ck_i, ↓nm_s, ↓bR_i, ↓bd_i, Option.isSome_some, Option.getD_some, gK, gR, gN, gIs, inb_nI, and_self, nI_clamp, fa_lit, pk_mul, nI_add, n10, n1z, n00, eq_self, not_true_eq_false, not_false_eq_true, true_or, or_true, fa_litL, wi1_n (n := 2147483646) (by omega) hN]
    rcases h with h | ⟨h1, h2⟩
    · exact ⟨-nI 1, M, by simp (disch := omega) only [f_X7_replayed, reduceIte, ↓reduceIte, ↓ck_i, ↓nm_s, ↓bR_i, ↓bd_i, Option.isSome_some, Option.getD_some, gK, gR, gN, gIs, inb_nI, and_self, nI_clamp, fa_lit, pk_mul, nI_add, n10, n1z, n00, eq_self, not_true_eq_false, not_false_eq_true, hQ.1, hp, h], KC.rf, fun _ hR2 hb => ⟨sI M (B + 59) 0 (nI 0), by simp (disch := omega) only [f_X8_replayed, reduceIte, ↓reduceIte, ↓ck_i, ↓nm_s, ↓bR_i, ↓bd_i, Option.isSome_some, Option.getD_some, gK, gR, gN, gIs, inb_nI, and_self, nI_clamp, fa_lit, pk_mul, nI_add, n10, n1z, n00, eq_self, not_true_eq_false, not_false_eq_true, hR.1, hR2.1, q_isPassed_y hR2 hl hk hy, nz, iw], KR.th (by omega) (by omega), hb⟩⟩
    · have h3 : ¬ z ≤ nI 2147483646 := by
        rw [fa_le, nI_toInt (by omega)]; rw [fa_le, nI_toInt (by omega)] at h2; omega
      exact ⟨-nI 1, M, by simp (disch := omega) only [f_X7_replayed, reduceIte, ↓reduceIte, ↓ck_i, ↓nm_s, ↓bR_i, ↓bd_i, Option.isSome_some, Option.getD_some, gK, gR, gN, gIs, inb_nI, and_self, nI_clamp, fa_lit, pk_mul, nI_add, n10, n1z, n00, eq_self, not_true_eq_false, not_false_eq_true, hQ.1, hp, h1, h3], KC.rf, fun _ hR2 hb => ⟨sI M (B + 59) 0 (nI 0), by simp (disch := omega) only [f_X8_replayed, reduceIte, ↓reduceIte, ↓ck_i, ↓nm_s, ↓bR_i, ↓bd_i, Option.isSome_some, Option.getD_some, gK, gR, gN, gIs, inb_nI, and_self, nI_clamp, fa_lit, pk_mul, nI_add, n10, n1z, n00, eq_self, not_true_eq_false, not_false_eq_true, hR.1, hR2.1, q_isPassed_y hR2 hl hk hy, nz, iw], KR.th (by omega) (by omega), hb⟩⟩
  have b1 : ¬ xx < 0 := by omega
  have b2 : xx ≤ 2147483646 := by omega
  have hC : CmD B M.2.2 := hQ.1
  have ahr := (hR.2.2.2.2.1.2.2.2.1 l hl (k + 1) (by omega) (by omega)).2 hy
  have ahc := (hQ.2.2.2.2.2.2.1.2.2.2.1 l hl (k + 1) (by omega) (by omega)).2
  by_cases z0 : xx = 0
  · subst z0
    obtain ⟨N, P, eN, hQN, eP, kd⟩ := p_replay hQ ht hB hl hk (x0 := S (1299 + 21 * l + (k + 1))) (by omega)
    have cr := p_countRetired hQN hl (y := k + 1) (by omega)
    have e1 : f_X7_replayed B (nI l) (nI (k + 1)) (nI 0) M = some (nI (rpS S l (k + 1) (T (12 + 7 * l)) (fb_ct (fun i => decide (S (480 + 60 * l + i) = k + 1)) (T (12 + 7 * l))) (stp S l (k + 1)) (S (1299 + 21 * l + (k + 1))) 0), P) := by
      rw [← eP]
      simp (disch := omega) only [f_X7_replayed, reduceIte, ↓reduceIte, ↓ck_i, ↓nm_s, ↓bR_i, ↓bd_i, Option.isSome_some, Option.getD_some, gK, gR, gN, gIs, inb_nI, and_self, nI_clamp, fa_lit, pk_mul, nI_add, n10, n1z, n00, eq_self, not_true_eq_false, not_false_eq_true, hC.a, hQ.2.1, hQ.2.2.2.1, hp, nI_ltI, nI_leI, b1, b2, p_cellOf, ahc, eN, hQN.1, hQN.2.1, hQN.2.2.2.1, cr]
    refine ⟨_, _, e1, kd.kc, fun hRN hR2 hb => ?_⟩
    obtain ⟨P2, eP2, u1⟩ := q_replay hR2 hl hk hy (v := nI 0) (x0 := S (1299 + 21 * l + (k + 1))) (by omega) (Or.inl ⟨rfl, rfl⟩)
    refine ⟨P2, ?_, (KR.th (by omega) (by omega)).tr u1.kr, by rw [u1.1, sI_r, kd.1]; exact hb⟩
    rw [← eP2]
    simp (disch := omega) only [f_X8_replayed, reduceIte, ↓reduceIte, ↓ck_i, ↓nm_s, ↓bR_i, ↓bd_i, Option.isSome_some, Option.getD_some, gK, gR, gN, gIs, inb_nI, and_self, nI_clamp, fa_lit, pk_mul, nI_add, n10, n1z, n00, eq_self, not_true_eq_false, not_false_eq_true, hRN.1, hR2.1, q_isPassed_y hR2 hl hk hy]
  · obtain ⟨N, P, eN, hQN, eP, kd⟩ := p_replay hQ ht hB hl hk (x0 := xx) (by omega)
    have cr := p_countRetired hQN hl (y := k + 1) (by omega)
    have nz : ¬ nI xx = nI 0 := by rw [nI_eq (by omega) (by omega)]; exact z0
    have e1 : f_X7_replayed B (nI l) (nI (k + 1)) (nI xx) M = some (nI (rpS S l (k + 1) (T (12 + 7 * l)) (fb_ct (fun i => decide (S (480 + 60 * l + i) = k + 1)) (T (12 + 7 * l))) (stp S l (k + 1)) xx 0), P) := by
      rw [← eP]
      simp (disch := omega) only [f_X7_replayed, reduceIte, ↓reduceIte, ↓ck_i, ↓nm_s, ↓bR_i, ↓bd_i, Option.isSome_some, Option.getD_some, gK, gR, gN, gIs, inb_nI, and_self, nI_clamp, fa_lit, pk_mul, nI_add, n10, n1z, n00, eq_self, not_true_eq_false, not_false_eq_true, hC.a, hQ.2.1, hQ.2.2.2.1, hp, nI_ltI, nI_leI, b1, b2, nz, eN, hQN.1, hQN.2.1, hQN.2.2.2.1, cr]
    refine ⟨_, _, e1, kd.kc, fun hRN hR2 hb => ?_⟩
    obtain ⟨P2, eP2, u1⟩ := q_replay hR2 hl hk hy (v := nI xx) (x0 := xx) (by omega) (Or.inr ⟨nz, rfl⟩)
    have iw : ∀ M : Mm, f_X8_isWheel (nI xx) M = some (nI 1, M) := fun M => by
      obtain ⟨j, rfl⟩ : ∃ j, xx = j + 1 := ⟨xx - 1, by omega⟩
      simp (disch := omega) only [f_X8_isWheel, reduceIte, ↓reduceIte, ↓ck_i, ↓nm_s, ↓bR_i, ↓bd_i, Option.isSome_some, Option.getD_some, gK, gR, gN, gIs, inb_nI, and_self, nI_clamp, fa_lit, pk_mul, nI_add, n10, n1z, n00, eq_self, not_true_eq_false, not_false_eq_true, true_or, or_true, fa_litL, wi1_y (n := 2147483646)]
    refine ⟨P2, ?_, (KR.th (by omega) (by omega)).tr u1.kr, by rw [u1.1, sI_r, kd.1]; exact hb⟩
    rw [← eP2]
    simp (disch := omega) only [f_X8_replayed, reduceIte, ↓reduceIte, ↓ck_i, ↓nm_s, ↓bR_i, ↓bd_i, Option.isSome_some, Option.getD_some, gK, gR, gN, gIs, inb_nI, and_self, nI_clamp, fa_lit, pk_mul, nI_add, n10, n1z, n00, eq_self, not_true_eq_false, not_false_eq_true, hRN.1, hR2.1, q_isPassed_y hR2 hl hk hy, nz, iw]
end REP
