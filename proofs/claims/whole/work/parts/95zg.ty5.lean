/-! text: numbers that are kept, names, on both sides -/
def oNw (n : Nat) (tp : Td) (f : Nat) (T : Td) (l g : Nat) (k : Nat → Nat → Ou) : Ou := if isNm n tp f then (if fnN T 2 l (wdT n tp f) < l then .inl (8 * f + 2) else if fnN T 6 g (wdT n tp f) < g then .inl (8 * f + 2) else k (wdT n tp f) (nxT n tp f)) else .inl (8 * f + 1)
def oKn (n : Nat) (tp : Td) (f : Nat) (T : Td) (base cnt : Nat) (k : Nat → Nat → Ou) : Ou := if isNm n tp f then (if fnN T base cnt (wdT n tp f) < cnt then k (fnN T base cnt (wdT n tp f)) (nxT n tp f) else .inl (8 * f + 3)) else .inl (8 * f + 1)
section TY5
variable {B d n f0 f l w g v i x c lo hi w2 v2 nn : Nat} {tp T S : Td} {T2 S2 : Nat → Td} {M0 M N P0 P Q : Mm}
theorem c_number {β : Type} {k : Nat → Nat → Ou} {kc : Int32 → Mm → Option (β × Mm)} {Ψ : Ou → β → Mm → Prop} (a j lo hi nn : Nat) (hlo : lo < 2 ^ 30) (hhi : hi < 2 ^ 30) (h : CP B d n tp M0 f0 f T S l w g v M) (ha : gK M a = 10 ∧ gN M a = nn) (hj : j < nn) (hnn : nn ≤ 1000) (hw : ∀ x, lo ≤ x → x ≤ hi → CP B d n tp M0 f0 f (T2 x) (S2 x) l w2 g v2 (sI M a j (nI x))) (h0 : ∀ e N, Fc B d M0 e N → Ok (kc (nI 0) N) (Ψ (.inl e))) (h1 : ∀ x N, lo ≤ x → x ≤ hi → CP B d n tp M0 f0 (nxT n tp f) (T2 x) (S2 x) l w2 g v2 N → Ok (kc (nI 1) N) (Ψ (k x (nxT n tp f)))) : Ok (bd (f_X3_number (B + 28) a (nI j) (nI lo) (nI hi) M) kc) (Ψ (oN n tp lo hi f k)) := by
  rw [f_X3_number, ck_t h.k3, Ok_bd]
  refine c_fits (k := fun x => k x (nxT n tp f)) (Ψ := fun o x M => Ok (kc x M) (Ψ o)) lo hi hlo hhi h (fun e N q => ?_) (fun x ex hk hv b1 b2 => ?_)
  · rw [if_neg (by decide)]; exact Ok_some.mpr (h0 e N q)
  · have hc := hw x b1 b2
    have hi : gK M a = 10 ∧ inb (nI j) (gN M a) := ⟨ha.1, by rw [ha.2]; exact nI_in hj (by omega)⟩
    rw [if_pos (by decide), ck_t h.k3, ck_t hi, nm_s, nI_clamp (by omega), hv, ck_t hc.k3]
    exact c_adv2 hc (by omega) (fun N q => Ok_some.mpr (h1 x N b1 b2 q))
theorem RP.s10 {u : Int32} (h : RP B n tp P0 f0 f T S l w g v P) : RP B n tp P0 f0 f T S l w g v (sI P (B + 59) 10 u) := by
  obtain ⟨h1, h2, h3, h4, h5, h6, h7, h8⟩ := h
  refine ⟨h1.sI (by omega), ⟨by rw [sI_oth (by omega)]; exact h2.1, by rw [sI_oth (by omega)]; exact h2.2.1, by rw [sI_oth (by omega)]; exact h2.2.2.1, by rw [sI_oth (by omega)]; exact h2.2.2.2.1, by rw [sI_oth (by omega)]; exact h2.2.2.2.2⟩, h3, by rw [sI_ne (by omega)]; exact h4, by rw [sI_ne (by omega)]; exact h5, by rw [sI_oth (by omega)]; exact h6, h7, h8.tr ⟨rfl, fun b b1 b2 b3 => sI_ne b1, fun j hj => sI_oth (by omega)⟩⟩
theorem r_number {β : Type} {k : Nat → Nat → Ou} {kc : Int32 → Mm → Option (β × Mm)} {Ψ : Ou → β → Mm → Prop} (lo hi : Nat) (hlo : lo < 2 ^ 30) (hhi : hi < 2 ^ 30) (h : RP B n tp P0 f0 f T S l w g v P) (h0 : ∀ e Q, Fr B P0 e Q → Ok (kc (nI 0) Q) (Ψ (.inl e))) (h1 : ∀ x Q, lo ≤ x → x ≤ hi → gI Q (B + 59) 10 = nI x → RP B n tp P0 f0 (nxT n tp f) T S l w g v Q → Ok (kc (nI 1) Q) (Ψ (k x (nxT n tp f)))) : Ok (bd (f_X8_number (B + 59) (nI lo) (nI hi) P) kc) (Ψ (oN n tp lo hi f k)) := by
  rw [f_X8_number, ck_t h.k8, Ok_bd]
  refine r_numberAt (k := fun x => k x (nxT n tp f)) (Ψ := fun o x M => Ok (kc x M) (Ψ o)) lo hi hlo hhi h (fun e N q => ?_) (fun x ex hk hv b1 b2 => ?_)
  · rw [if_neg (by decide)]; exact Ok_some.mpr (h0 e N q)
  · have hc := h.s10 (u := nI x)
    rw [if_pos (by decide), ck_t h.k8, ck_t h.k8, nm_s, hv, ck_t hc.k8]
    refine r_go2 hc (fun Q q q2 => Ok_some.mpr (h1 x Q b1 b2 ?_ q))
    show Q.1 (B + 59) 10 = nI x
    rw [q2.2.2 10 (by omega), sI_hit]
/-! which name -/
theorem c_lcl (h : CP B d n tp M0 f0 f T S l w g v M) (hx : nmO x) : f_X6_loanCalled d (nI (vcN 6 x)) M = some (if fnN T 2 l x < l then nI (fnN T 2 l x) else -nI 1, M) := by
  have hA : TmA d M.2.2 := h.2.2.2.1.2
  have k6 := h.k6
  have hb := h.2.2.2.2.2.1.b
  have r5 : gR M d 5 = some (d + 1) := hA.2.1
  have kk : gK M (d + 1) = 10 ∧ gN M (d + 1) = 4 := ⟨hA.2.2.1, hA.2.2.2.1⟩
  have hc := h.2.2.2.2.1
  have hw := h.2.2.2.2.2.1
  have e0 : gI M d 0 = nI l := hc.1
  have fl := fn_le (T := T) (p := 2) (n := l) (x := x)
  generalize hj : fnN T 2 l x = j0 at *
  have lp : ∀ (e i m : Nat), i + e = j0 → e < m → f_X6_loanCalled_2 m d (nI (vcN 6 x)) (nI i) M = some (if j0 < l then nI j0 else -nI 1, M) := by
    intro e
    induction e with
    | zero =>
      intro i m hi hm
      obtain ⟨m, rfl⟩ : ∃ q, m = q + 1 := ⟨m - 1, by omega⟩
      have ei : i = j0 := by omega
      subst ei
      rw [f_X6_loanCalled_2, ck_t k6, e0]
      by_cases a : i < l
      · have hi2 : gK M (d + 1) = 10 ∧ inb (nI i) (gN M (d + 1)) := ⟨kk.1, by rw [kk.2]; exact nI_in (by omega) (by omega)⟩
        have y := fn_yes (T := T) (p := 2) (n := l) (x := x) (by omega)
        rw [hj] at y
        have nm : gI M (d + 1) i = nI (vcN 6 x) := by
          have := hc.2.2.1 i (by omega)
          rw [y] at this; exact this
        rw [if_neg (by rw [nI_leI (by omega) (by omega)]; omega), ck_t k6, r5, bR_s, ck_t hi2, nI_clamp (by omega), nm, if_neg (not_not_intro rfl), if_pos a]
      · rw [if_pos (by rw [nI_leI (by omega) (by omega)]; omega), if_neg a]; rfl
    | succ e ih =>
      intro i m hi hm
      obtain ⟨m, rfl⟩ : ∃ q, m = q + 1 := ⟨m - 1, by omega⟩
      have hi2 : gK M (d + 1) = 10 ∧ inb (nI i) (gN M (d + 1)) := ⟨kk.1, by rw [kk.2]; exact nI_in (by omega) (by omega)⟩
      have ne := fn_no (T := T) (p := 2) (n := l) (x := x) (k := i) (by omega)
      have nm : gI M (d + 1) i = nI (vcN 6 (T (2 + i))) := hc.2.2.1 i (by omega)
      have nt := hw.2.2.2.2.1 i (by omega)
      have ne2 : ¬ nI (vcN 6 (T (2 + i))) = nI (vcN 6 x) := by rw [nm_inj nt hx]; exact ne
      rw [f_X6_loanCalled_2, ck_t k6, e0, if_neg (by rw [nI_leI (by omega) (by omega)]; omega), ck_t k6, r5, bR_s, ck_t hi2, nI_clamp (by omega), nm, if_pos ne2, nI_1]
      exact ih (i + 1) m (by omega) (by omega)
  exact lp j0 0 FU (by omega) (by unfold FU; omega)
theorem c_hcl (h : CP B d n tp M0 f0 f T S l w g v M) (hx : nmO x) : f_X6_holderCalled d (nI (vcN 6 x)) M = some (if fnN T 6 g x < g then nI (fnN T 6 g x) else -nI 1, M) := by
  have hA : TmA d M.2.2 := h.2.2.2.1.2
  have k6 := h.k6
  have hb := h.2.2.2.2.2.1.b
  have r5 : gR M d 13 = some (d + 9) := by simp only [gR, hA]
  have kk : gK M (d + 9) = 10 ∧ gN M (d + 9) = 6 := by
    refine ⟨?_, ?_⟩
    · simp only [gK, hA]
    · simp only [gN, hA]
  have hc := h.2.2.2.2.1
  have hw := h.2.2.2.2.2.1
  have e0 : gI M d 1 = nI g := hc.2.1
  have fl := fn_le (T := T) (p := 6) (n := g) (x := x)
  generalize hj : fnN T 6 g x = j0 at *
  have lp : ∀ (e i m : Nat), i + e = j0 → e < m → f_X6_holderCalled_2 m d (nI (vcN 6 x)) (nI i) M = some (if j0 < g then nI j0 else -nI 1, M) := by
    intro e
    induction e with
    | zero =>
      intro i m hi hm
      obtain ⟨m, rfl⟩ : ∃ q, m = q + 1 := ⟨m - 1, by omega⟩
      have ei : i = j0 := by omega
      subst ei
      rw [f_X6_holderCalled_2, ck_t k6, e0]
      by_cases a : i < g
      · have hi2 : gK M (d + 9) = 10 ∧ inb (nI i) (gN M (d + 9)) := ⟨kk.1, by rw [kk.2]; exact nI_in (by omega) (by omega)⟩
        have y := fn_yes (T := T) (p := 6) (n := g) (x := x) (by omega)
        rw [hj] at y
        have nm : gI M (d + 9) i = nI (vcN 6 x) := by
          have := hc.2.2.2.2.1 i (by omega)
          rw [y] at this; exact this
        rw [if_neg (by rw [nI_leI (by omega) (by omega)]; omega), ck_t k6, r5, bR_s, ck_t hi2, nI_clamp (by omega), nm, if_neg (not_not_intro rfl), if_pos a]
      · rw [if_pos (by rw [nI_leI (by omega) (by omega)]; omega), if_neg a]; rfl
    | succ e ih =>
      intro i m hi hm
      obtain ⟨m, rfl⟩ : ∃ q, m = q + 1 := ⟨m - 1, by omega⟩
      have hi2 : gK M (d + 9) = 10 ∧ inb (nI i) (gN M (d + 9)) := ⟨kk.1, by rw [kk.2]; exact nI_in (by omega) (by omega)⟩
      have ne := fn_no (T := T) (p := 6) (n := g) (x := x) (k := i) (by omega)
      have nm : gI M (d + 9) i = nI (vcN 6 (T (6 + i))) := hc.2.2.2.2.1 i (by omega)
      have nt := hw.2.2.2.2.2.2.1 i (by omega)
      have ne2 : ¬ nI (vcN 6 (T (6 + i))) = nI (vcN 6 x) := by rw [nm_inj nt hx]; exact ne
      rw [f_X6_holderCalled_2, ck_t k6, e0, if_neg (by rw [nI_leI (by omega) (by omega)]; omega), ck_t k6, r5, bR_s, ck_t hi2, nI_clamp (by omega), nm, if_pos ne2, nI_1]
      exact ih (i + 1) m (by omega) (by omega)
  exact lp j0 0 FU (by omega) (by unfold FU; omega)
theorem r_nlp (h : RP B n tp P0 f0 f T S l w g v P) (hx : nmO x) (h8 : gI P (B + 59) 8 = nI x) (c y base cnt : Nat) (hc : (c = 0 ∧ y = 0 ∨ c = 1 ∧ y = 1)) (hcn : T y = cnt) (hbc : base + cnt ≤ 12) (hnm : ∀ k, k < cnt → nmO (T (base + k))) : f_X8_named_13 FU (B + 59) (nI c) (nI base) (nI 0) P = some (if fnN T base cnt x < cnt then nI (fnN T base cnt x) else -nI 1, P) := by
  have k8 := h.k8
  have r12 := h.r12
  have kk := h.a62
  have hT := h.2.2.2.1
  have fl := fn_le (T := T) (p := base) (n := cnt) (x := x)
  have xb := hx.2.1
  have ky : gK P (B + 62) = 10 ∧ inb (nI y) (gN P (B + 62)) := ⟨kk.1, by rw [kk.2.1]; exact nI_in (by omega) (by omega)⟩
  have ey : gI P (B + 62) y = nI cnt := by rw [← hcn]; exact hT y (by omega)
  have step : ∀ (m : Nat) (i : Nat), f_X8_named_13 (m + 1) (B + 59) (nI c) (nI base) (nI i) P = f_X8_named_27 (f_X8_named_13 m) (B + 59) (nI c) (nI base) (nI i) (nI y) (B + 62) (nI i) P := by
    intro m i
    rw [f_X8_named_13, ck_t k8, r12, bR_s]
    rcases hc with ⟨rfl, rfl⟩ | ⟨rfl, rfl⟩
    · rw [if_pos (by decide)]; rfl
    · rw [if_neg (by decide)]; rfl
  generalize hj : fnN T base cnt x = j0 at *
  have lp : ∀ (e i m : Nat), i + e = j0 → e < m → f_X8_named_13 m (B + 59) (nI c) (nI base) (nI i) P = some (if j0 < cnt then nI j0 else -nI 1, P) := by
    intro e
    induction e with
    | zero =>
      intro i m hi hm
      obtain ⟨m, rfl⟩ : ∃ q, m = q + 1 := ⟨m - 1, by omega⟩
      have ei : i = j0 := by omega
      subst ei
      rw [step, f_X8_named_27, ck_t ky, nI_clamp (by omega), ey]
      by_cases a : i < cnt
      · have hi2 : gK P (B + 62) = 10 ∧ inb (nI base + nI i) (gN P (B + 62)) := ⟨kk.1, by rw [kk.2.1, nI_add]; exact nI_in (by omega) (by omega)⟩
        have yy := fn_yes (T := T) (p := base) (n := cnt) (x := x) (by omega)
        rw [hj] at yy
        have nm : gI P (B + 62) (base + i) = nI x := by rw [← yy]; exact hT (base + i) (by omega)
        rw [if_neg (by rw [nI_leI (by omega) (by omega)]; omega), ck_t k8, r12, bR_s, ck_t hi2, ck_t k8, nI_add, nI_clamp (by omega), nm, h8, if_neg (not_not_intro rfl), if_pos a]
      · rw [if_pos (by rw [nI_leI (by omega) (by omega)]; omega), if_neg a]; rfl
    | succ e ih =>
      intro i m hi hm
      obtain ⟨m, rfl⟩ : ∃ q, m = q + 1 := ⟨m - 1, by omega⟩
      have hi2 : gK P (B + 62) = 10 ∧ inb (nI base + nI i) (gN P (B + 62)) := ⟨kk.1, by rw [kk.2.1, nI_add]; exact nI_in (by omega) (by omega)⟩
      have ne := fn_no (T := T) (p := base) (n := cnt) (x := x) (k := i) (by omega)
      have nm : gI P (B + 62) (base + i) = nI (T (base + i)) := hT (base + i) (by omega)
      have nt := (hnm i (by omega)).2.1
      have ne2 : ¬ nI (T (base + i)) = nI x := by rw [nI_eq (by omega) (by omega)]; exact ne
      rw [step, f_X8_named_27, ck_t ky, nI_clamp (by omega), ey, if_neg (by rw [nI_leI (by omega) (by omega)]; omega), ck_t k8, r12, bR_s, ck_t hi2, ck_t k8, nI_add, nI_clamp (by omega), nm, h8, if_pos ne2, nI_1]
      exact ih (i + 1) m (by omega) (by omega)
  exact lp j0 0 FU (by omega) (by unfold FU; omega)
theorem r_lcl (h : RP B n tp P0 f0 f T S l w g v P) (hx : nmO x) (h8 : gI P (B + 59) 8 = nI x) : f_X8_named (B + 59) (nI 0) P = some (if fnN T 2 l x < l then nI (fnN T 2 l x) else -nI 1, P) := by
  have hw := h.2.2.2.2.2.2.1
  have hb := hw.b
  rw [f_X8_named, if_pos (by decide)]
  exact r_nlp h hx h8 0 0 2 l (Or.inl ⟨rfl, rfl⟩) hw.1 (by omega) (fun k hk => hw.2.2.2.2.1 k (Or.inl hk))
theorem r_hcl (h : RP B n tp P0 f0 f T S l w g v P) (hx : nmO x) (h8 : gI P (B + 59) 8 = nI x) : f_X8_named (B + 59) (nI 1) P = some (if fnN T 6 g x < g then nI (fnN T 6 g x) else -nI 1, P) := by
  have hw := h.2.2.2.2.2.2.1
  have hb := hw.b
  rw [f_X8_named, if_neg (by decide)]
  exact r_nlp h hx h8 1 1 6 g (Or.inr ⟨rfl, rfl⟩) hw.2.1 (by omega) (fun k hk => hw.2.2.2.2.2.2.1 k (Or.inl hk))
theorem nI_m1 {j : Nat} (h : j < 2 ^ 30) : ¬ nI j = (-1 : Int32) := by
  rw [fa_eq, nI_toInt (by omega)]
  have : (-1 : Int32).toInt = -1 := by decide
  omega
end TY5
