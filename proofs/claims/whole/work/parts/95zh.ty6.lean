/-! text: a new name, a known one, on both sides -/
section TY6
variable {B d n f0 f l w g v i x c lo hi w2 v2 nn : Nat} {tp T S : Td} {T2 S2 : Nat → Td} {M0 M N P0 P Q : Mm}
theorem c_newName {β : Type} {k : Nat → Nat → Ou} {kc : Int32 → Mm → Option (β × Mm)} {Ψ : Ou → β → Mm → Prop} (a j nn : Nat) (h : CP B d n tp M0 f0 f T S l w g v M) (ha : gK M a = 10 ∧ gN M a = nn) (hj : j < nn) (hnn : nn ≤ 1000) (hw : ∀ x, nmO x → CP B d n tp M0 f0 f (T2 x) S l w2 g v2 (sI M a j (nI (vcN 6 x)))) (h0 : ∀ e N, Fc B d M0 e N → Ok (kc (nI 0) N) (Ψ (.inl e))) (h1 : ∀ x N, CP B d n tp M0 f0 (nxT n tp f) (T2 x) S l w2 g v2 N → Ok (kc (nI 1) N) (Ψ (k x (nxT n tp f)))) : Ok (bd (f_X3_newName (B + 28) a (nI j) M) kc) (Ψ (oNw n tp f T l g k)) := by
  have hb := h.2.2.2.2.2.1.b
  rw [f_X3_newName, ck_t h.k3, c_isName h.1 h.2.1 h.2.2.1.2.1, bd_s, oNw]
  by_cases e : isNm n tp f
  · have hx := wd_nm e.1
    have hv : gI M (B + 28) 7 = nI (vcN 6 (wdT n tp f)) := c_val h.2.1 e.1
    rw [if_pos e, if_pos e, if_pos (by decide), ck_t h.k3, h.r3, bR_s, ck_t h.k3, ck_t h.k6, hv, c_lcl h hx, bd_s]
    by_cases a1 : fnN T 2 l (wdT n tp f) < l
    · rw [if_pos a1, if_pos a1, if_pos (nI_m1 (by omega)), ck_t h.k3, Ok_bd]
      refine c_ref 2 h (fun N q => ?_)
      exact ok_01 (Or.inl rfl) (h0 _ N q)
    · rw [if_neg a1, if_neg a1, if_neg (not_not_intro (show (-nI 1 : Int32) = (-1 : Int32) from rfl)), ck_t h.k3, h.r3, bR_s, ck_t h.k3, ck_t h.k6, hv, c_hcl h hx, bd_s]
      by_cases a2 : fnN T 6 g (wdT n tp f) < g
      · rw [if_pos a2, if_pos a2, if_neg (nI_m1 (by omega)), ck_t h.k3, Ok_bd]
        refine c_ref 2 h (fun N q => ?_)
        exact ok_01 (Or.inl rfl) (h0 _ N q)
      · have hc := hw _ hx
        have hi : gK M a = 10 ∧ inb (nI j) (gN M a) := ⟨ha.1, by rw [ha.2]; exact nI_in hj (by omega)⟩
        rw [if_neg a2, if_neg a2, if_pos (show (-nI 1 : Int32) = (-1 : Int32) from rfl), ck_t h.k3, ck_t hi, nm_s, nI_clamp (by omega), hv, ck_t hc.k3, Ok_bd]
        exact c_adv2 hc (wd_k e.1) (fun N q => Ok_some.mpr (h1 _ N q))
  · rw [if_neg e, if_neg e, if_neg (by decide), ck_t h.k3, Ok_bd]
    refine c_ref 1 h (fun N q => ?_)
    exact ok_01 (Or.inl rfl) (h0 _ N q)
theorem RP.wT {q y l2 g2 : Nat} (h : RP B n tp P0 f0 f T S l w g v P) (hq : q < 80) (hw : DW (upN T q y) S l2 w2 g2 v2) : RP B n tp P0 f0 f (upN T q y) S l2 w2 g2 v2 (sI P (B + 62) q (nI y)) := by
  obtain ⟨h1, h2, h3, h4, h5, h6, h7, h8⟩ := h
  have o : ∀ b, b ≠ B + 62 → (sI P (B + 62) q (nI y)).1 b = P.1 b := fun b hb => sI_ne hb
  refine ⟨⟨h1.1, by rw [o _ (by omega)]; exact h1.2.1, h1.2.2.1, fun k hk => by rw [o _ (by omega)]; exact h1.2.2.2 k hk⟩, ?_, h3, fun k hk => ?_, by rw [o _ (by omega)]; exact h5, by rw [o _ (by omega)]; exact h6, hw, h8.tr ⟨rfl, fun b b1 b2 b3 => o b b2, fun j hj => by rw [o _ (by omega)]⟩⟩
  · unfold TkR
    rw [o _ (by omega)]; exact h2
  · by_cases e : k = q
    · rw [e, upN_s, sI_hit]
    · rw [upN_o e, sI_oth e]; exact h4 k hk
theorem RP.wS {q y l2 g2 : Nat} (h : RP B n tp P0 f0 f T S l w g v P) (hq : q < 1407) (hw : DW T (upN S q y) l2 w2 g2 v2) : RP B n tp P0 f0 f T (upN S q y) l2 w2 g2 v2 (sI P (B + 64) q (nI y)) := by
  obtain ⟨h1, h2, h3, h4, h5, h6, h7, h8⟩ := h
  have o : ∀ b, b ≠ B + 64 → (sI P (B + 64) q (nI y)).1 b = P.1 b := fun b hb => sI_ne hb
  refine ⟨⟨h1.1, by rw [o _ (by omega)]; exact h1.2.1, h1.2.2.1, fun k hk => by rw [o _ (by omega)]; exact h1.2.2.2 k hk⟩, ?_, h3, by rw [o _ (by omega)]; exact h4, fun k hk => ?_, by rw [o _ (by omega)]; exact h6, hw, h8.tr ⟨rfl, fun b b1 b2 b3 => o b b3, fun j hj => by rw [o _ (by omega)]⟩⟩
  · unfold TkR
    rw [o _ (by omega)]; exact h2
  · by_cases e : k = q
    · rw [e, upN_s, sI_hit]
    · rw [upN_o e, sI_oth e]; exact h5 k hk
theorem RP.i62 {q : Nat} (h : RP B n tp P0 f0 f T S l w g v P) (hq : q < 80) : gK P (B + 62) = 10 ∧ inb (nI q) (gN P (B + 62)) := ⟨h.a62.1, by rw [h.a62.2.1]; exact nI_in hq (by omega)⟩
theorem RP.i64 {q : Nat} (h : RP B n tp P0 f0 f T S l w g v P) (hq : q < 1407) : gK P (B + 64) = 10 ∧ inb (nI q) (gN P (B + 64)) := ⟨h.a62.2.2.1, by rw [h.a62.2.2.2]; exact nI_in hq (by omega)⟩
theorem r_newName {β : Type} {k : Nat → Nat → Ou} {kc : Int32 → Mm → Option (β × Mm)} {Ψ : Ou → β → Mm → Prop} (q : Nat) (hq : q < 80) (h : RP B n tp P0 f0 f T S l w g v P) (hw : ∀ x, nmO x → DW (upN T q x) S l w2 g v2) (h0 : ∀ e Q, Fr B P0 e Q → Ok (kc (nI 0) Q) (Ψ (.inl e))) (h1 : ∀ x Q, RP B n tp P0 f0 (nxT n tp f) (upN T q x) S l w2 g v2 Q → Ok (kc (nI 1) Q) (Ψ (k x (nxT n tp f)))) : Ok (bd (f_X8_newName (B + 59) (nI q) P) kc) (Ψ (oNw n tp f T l g k)) := by
  have hb := h.2.2.2.2.2.2.1.b
  rw [f_X8_newName, ck_t h.k8, r_isName h.1 h.2.1, bd_s, oNw]
  by_cases e : isNm n tp f
  · have hx := wd_nm e.1
    have hv : gI P (B + 59) 8 = nI (wdT n tp f) := r_val h.2.1 e.1
    rw [if_pos e, if_pos e, if_pos (by decide), ck_t h.k8, show f_X8_named (B + 59) (0 : Int32) P = _ from r_lcl h hx hv, bd_s]
    by_cases a1 : fnN T 2 l (wdT n tp f) < l
    · rw [if_pos a1, if_pos a1, if_pos (nI_m1 (by omega)), ck_t h.k8, Ok_bd]
      refine r_bad 2 h (fun N q => ?_)
      exact ok_01 (Or.inl rfl) (h0 _ N q)
    · rw [if_neg a1, if_neg a1, if_neg (not_not_intro (show (-nI 1 : Int32) = (-1 : Int32) from rfl)), ck_t h.k8, show f_X8_named (B + 59) (1 : Int32) P = _ from r_hcl h hx hv, bd_s]
      by_cases a2 : fnN T 6 g (wdT n tp f) < g
      · rw [if_pos a2, if_pos a2, if_neg (nI_m1 (by omega)), ck_t h.k8, Ok_bd]
        refine r_bad 2 h (fun N q => ?_)
        exact ok_01 (Or.inl rfl) (h0 _ N q)
      · have hc := h.wT hq (hw _ hx)
        rw [if_neg a2, if_neg a2, if_pos (show (-nI 1 : Int32) = (-1 : Int32) from rfl), ck_t h.k8, h.r12, bR_s, ck_t h.k8, ck_t (h.i62 hq), nm_s, nI_clamp (by omega), hv, ck_t hc.k8, Ok_bd]
        exact r_go2 hc (fun Q q _ => Ok_some.mpr (h1 _ Q q))
  · rw [if_neg e, if_neg e, if_neg (by decide), ck_t h.k8, Ok_bd]
    refine r_bad 1 h (fun N q => ?_)
    exact ok_01 (Or.inl rfl) (h0 _ N q)
theorem c_kn0 {β : Type} {kc : Int32 → Mm → Option (β × Mm)} {Ψ : β → Mm → Prop} (c : Nat) (h : CP B d n tp M0 f0 f T S l w g v M) (hc : c = 1 ∧ ¬ isNm n tp f ∨ c = 3 ∧ isNm n tp f) (h0 : ∀ N, Fc B d M0 (8 * f + c) N → Ok (kc (-nI 1) N) Ψ) : Ok (bd (f_X3_known (B + 28) (-nI 1) M) kc) Ψ := by
  rw [f_X3_known, if_neg (not_not_intro (show (-nI 1 : Int32) = (-1 : Int32) from rfl)), ck_t h.k3, c_isName h.1 h.2.1 h.2.2.1.2.1, bd_s, Ok_bd]
  rcases hc with ⟨rfl, e⟩ | ⟨rfl, e⟩
  · rw [if_neg e, if_pos (by decide), ck_t h.k3]
    exact c_ref 1 h (fun N q => Ok_some.mpr (h0 N q))
  · rw [if_pos e, if_neg (by decide), ck_t h.k3]
    exact c_ref 3 h (fun N q => Ok_some.mpr (h0 N q))
theorem c_kn1 {β : Type} {kc : Int32 → Mm → Option (β × Mm)} {Ψ : β → Mm → Prop} (j : Nat) (hj : j < 10) (h : CP B d n tp M0 f0 f T S l w g v M) (hk : wdT n tp f ≠ 0) (h1 : ∀ N, CP B d n tp M0 f0 (nxT n tp f) T S l w g v N → Ok (kc (nI j) N) Ψ) : Ok (bd (f_X3_known (B + 28) (nI j) M) kc) Ψ := by
  rw [f_X3_known, if_pos (nI_m1 (by omega)), ck_t h.k3, Ok_bd]
  exact c_adv2 h (wd_k hk) (fun N q => Ok_some.mpr (h1 N q))
theorem c_knownLoan {β : Type} {k : Nat → Nat → Ou} {kc : Int32 → Mm → Option (β × Mm)} {Ψ : Ou → β → Mm → Prop} (h : CP B d n tp M0 f0 f T S l w g v M) (h0 : ∀ e N, Fc B d M0 e N → Ok (kc (-nI 1) N) (Ψ (.inl e))) (h1 : ∀ j N, j < l → CP B d n tp M0 f0 (nxT n tp f) T S l w g v N → Ok (kc (nI j) N) (Ψ (k j (nxT n tp f)))) : Ok (bd (f_X3_knownLoan (B + 28) M) kc) (Ψ (oKn n tp f T 2 l k)) := by
  have hb := h.2.2.2.2.2.1.b
  rw [f_X3_knownLoan, ck_t h.k3, c_isName h.1 h.2.1 h.2.2.1.2.1, bd_s, oKn]
  by_cases e : isNm n tp f
  · have hx := wd_nm e.1
    have hv : gI M (B + 28) 7 = nI (vcN 6 (wdT n tp f)) := c_val h.2.1 e.1
    rw [if_pos e, if_pos e, if_neg (by decide), ck_t h.k3, h.r3, bR_s, ck_t h.k3, ck_t h.k6, hv, c_lcl h hx, bd_s, ck_t h.k3, Ok_bd]
    by_cases a1 : fnN T 2 l (wdT n tp f) < l
    · rw [if_pos a1, if_pos a1]
      exact c_kn1 _ (by omega) h e.1 (fun N q => Ok_some.mpr (h1 _ N a1 q))
    · rw [if_neg a1, if_neg a1]
      exact c_kn0 3 h (Or.inr ⟨rfl, e⟩) (fun N q => Ok_some.mpr (h0 _ N q))
  · rw [if_neg e, if_neg e, if_pos (by decide), ck_t h.k3, Ok_bd]
    exact c_kn0 1 h (Or.inl ⟨rfl, e⟩) (fun N q => Ok_some.mpr (h0 _ N q))
theorem c_knownHolder {β : Type} {k : Nat → Nat → Ou} {kc : Int32 → Mm → Option (β × Mm)} {Ψ : Ou → β → Mm → Prop} (h : CP B d n tp M0 f0 f T S l w g v M) (h0 : ∀ e N, Fc B d M0 e N → Ok (kc (-nI 1) N) (Ψ (.inl e))) (h1 : ∀ j N, j < g → CP B d n tp M0 f0 (nxT n tp f) T S l w g v N → Ok (kc (nI j) N) (Ψ (k j (nxT n tp f)))) : Ok (bd (f_X3_knownHolder (B + 28) M) kc) (Ψ (oKn n tp f T 6 g k)) := by
  have hb := h.2.2.2.2.2.1.b
  rw [f_X3_knownHolder, ck_t h.k3, c_isName h.1 h.2.1 h.2.2.1.2.1, bd_s, oKn]
  by_cases e : isNm n tp f
  · have hx := wd_nm e.1
    have hv : gI M (B + 28) 7 = nI (vcN 6 (wdT n tp f)) := c_val h.2.1 e.1
    rw [if_pos e, if_pos e, if_neg (by decide), ck_t h.k3, h.r3, bR_s, ck_t h.k3, ck_t h.k6, hv, c_hcl h hx, bd_s, ck_t h.k3, Ok_bd]
    by_cases a1 : fnN T 6 g (wdT n tp f) < g
    · rw [if_pos a1, if_pos a1]
      exact c_kn1 _ (by omega) h e.1 (fun N q => Ok_some.mpr (h1 _ N a1 q))
    · rw [if_neg a1, if_neg a1]
      exact c_kn0 3 h (Or.inr ⟨rfl, e⟩) (fun N q => Ok_some.mpr (h0 _ N q))
  · rw [if_neg e, if_neg e, if_pos (by decide), ck_t h.k3, Ok_bd]
    exact c_kn0 1 h (Or.inl ⟨rfl, e⟩) (fun N q => Ok_some.mpr (h0 _ N q))
theorem r_known {β : Type} {k : Nat → Nat → Ou} {kc : Int32 → Mm → Option (β × Mm)} {Ψ : Ou → β → Mm → Prop} (c base cnt : Nat) (hc : c = 0 ∧ base = 2 ∧ cnt = l ∨ c = 1 ∧ base = 6 ∧ cnt = g) (h : RP B n tp P0 f0 f T S l w g v P) (h0 : ∀ e Q, Fr B P0 e Q → Ok (kc (nI 0) Q) (Ψ (.inl e))) (h1 : ∀ j Q, j < cnt → gI Q (B + 59) 10 = nI j → RP B n tp P0 f0 (nxT n tp f) T S l w g v Q → Ok (kc (nI 1) Q) (Ψ (k j (nxT n tp f)))) : Ok (bd (f_X8_known (B + 59) (nI c) P) kc) (Ψ (oKn n tp f T base cnt k)) := by
  have hb := h.2.2.2.2.2.2.1.b
  rw [f_X8_known, ck_t h.k8, r_isName h.1 h.2.1, bd_s, oKn]
  by_cases e : isNm n tp f
  · have hx := wd_nm e.1
    have hv : gI P (B + 59) 8 = nI (wdT n tp f) := r_val h.2.1 e.1
    have hn : f_X8_named (B + 59) (nI c) P = some (if fnN T base cnt (wdT n tp f) < cnt then nI (fnN T base cnt (wdT n tp f)) else -nI 1, P) := by
      rcases hc with ⟨rfl, rfl, rfl⟩ | ⟨rfl, rfl, rfl⟩
      · exact r_lcl h hx hv
      · exact r_hcl h hx hv
    rw [if_pos e, if_pos e, if_pos (by decide), ck_t h.k8, hn, bd_s]
    by_cases a1 : fnN T base cnt (wdT n tp f) < cnt
    · have hc := h.s10 (u := nI (fnN T base cnt (wdT n tp f)))
      rw [if_pos a1, if_pos a1, if_pos (nI_m1 (by omega)), ck_t h.k8, nm_s, ck_t hc.k8, Ok_bd]
      refine r_go2 hc (fun Q q q2 => Ok_some.mpr (h1 _ Q a1 ?_ q))
      show Q.1 (B + 59) 10 = _
      rw [q2.2.2 10 (by omega), sI_hit]
    · rw [if_neg a1, if_neg a1, if_neg (not_not_intro (show (-nI 1 : Int32) = (-1 : Int32) from rfl)), ck_t h.k8, Ok_bd]
      refine r_bad 3 h (fun N q => ?_)
      exact ok_01 (Or.inl rfl) (h0 _ N q)
  · rw [if_neg e, if_neg e, if_neg (by decide), ck_t h.k8, Ok_bd]
    refine r_bad 1 h (fun N q => ?_)
    exact ok_01 (Or.inl rfl) (h0 _ N q)
end TY6
