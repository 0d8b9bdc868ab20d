/-! text: the reference's lines one behind another -/
def KrT (B : Nat) (P Q : Mm) : Prop := Q.2 = P.2 ∧ (∀ b, b ≠ B + 59 → b ≠ B + 62 → b ≠ B + 64 → Q.1 b = P.1 b) ∧ ∀ j, (j < 4 ∨ 16 < j) → Q.1 (B + 59) j = P.1 (B + 59) j
section TZ3
variable {B d n f0 f l w g v i x c lo hi w2 v2 l2 g2 nn j q hh pz pc y ln : Nat} {tp T S T2 S2 : Td} {M0 M N P0 P Q R : Mm} {u : Int32}
theorem KrT.tr (h : KrT B P Q) (k : KrT B Q R) : KrT B P R := ⟨k.1.trans h.1, fun b h1 h2 h3 => (k.2.1 b h1 h2 h3).trans (h.2.1 b h1 h2 h3), fun j hj => (k.2.2 j hj).trans (h.2.2 j hj)⟩
theorem KrL.toT (h : KrL B P Q) : KrT B P Q := ⟨h.1, h.2.1, fun j hj => h.2.2 j (by omega)⟩
theorem Kr.toT (h : Kr B P Q) : KrT B P Q := ⟨h.1, h.2.1, fun j hj => h.2.2 j (by omega)⟩
theorem r_loop {QR : Ou → Int32 → Mm → Prop} (hE : ∀ e Q, Q.1 (B + 59) 9 = nI e → KrT B P0 Q → QR (.inl e) ((-2 : Int32) - nI e) Q) (hF : ∀ T S l g ln Q, RP B n tp Q n n T S l 0 g 0 Q → Q.1 (B + 59) 16 = nI ln → KrT B P0 Q → Ok (f_X8_text_179 FU (B + 59) (0 : Int32) Q) (QR (.inr (T, S, ln)))) : ∀ (m f : Nat) (T S : Td) (l g hh pz pc ln mm : Nat) (P : Mm), LnR B n tp f T S l g hh pz pc P → KrT B P0 P → P.1 (B + 59) 16 = nI ln → n - f < m → n - f + 1 < mm → Ok (f_X8_text_110 mm (B + 59) (nI 1) P) (QR (pLoop n tp m f T S l g hh pz pc ln)) := by
  intro m
  induction m with
  | zero => intro f T S l g hh pz pc ln mm P _ _ _ hm; omega
  | succ m ih =>
    intro f T S l g hh pz pc ln mm P hL hK h16 hm hmm
    obtain ⟨mm, rfl⟩ : ∃ q, mm = q + 1 := ⟨mm - 1, by omega⟩
    have h := hL.1
    have hf := h.2.2.1.2
    have k4 : tkK n tp f ≤ 4 := by unfold tkK; (repeat' split) <;> omega
    have t6 : gI P (B + 59) 6 = nI (tkK n tp f) := h.2.1.2.2.1
    rw [f_X8_text_110, if_neg (by decide), ck_t h.k8, t6, pLoop]
    by_cases e0 : tkK n tp f = 0
    · have fn : f = n := by
        have := tk_0.mp e0
        omega
      rw [if_pos e0, if_pos (show nI (tkK n tp f) = 0 by rw [e0]; rfl), if_pos (by decide)]
      subst fn
      exact hF T S l g ln P h h16 hK
    rw [if_neg e0, if_neg (show ¬ nI (tkK n tp f) = 0 by rw [show (0 : Int32) = nI 0 from rfl, nI_eq (by omega) (by omega)]; exact e0), ck_t h.k8, Ok_bd]
    have fn : f < n := by
      have := mt tk_0.mpr e0
      omega
    have z0 : ∀ e Q, Q.1 (B + 59) 9 = nI e → KrT B P Q → Ok (f_X8_text_144 (f_X8_text_110 mm) (B + 59) (nI 0) Q) (QR (.inl e)) := fun e Q e9 q => by
      obtain ⟨mm, rfl⟩ : ∃ q, mm = q + 1 := ⟨mm - 1, by omega⟩
      have k8 : gK Q (B + 59) = 8 := by
        have a := h.k8
        unfold gK at a ⊢
        rw [q.1]; exact a
      rw [f_X8_text_144, if_pos (by decide), f_X8_text_110, if_pos (by decide), if_neg (by decide), ck_t k8, show gI Q (B + 59) 9 = nI e from e9]
      exact Ok_some.mpr (hE e Q e9 (hK.tr q))
    refine r_line (k := fun f T S l g hh pz pc => oS n tp f (fun f => pLoop n tp m f T S l g hh pz pc (ln + 1))) (Ψ := fun o v2 M1 => Ok (if v2 = 0 then f_X8_text_144 (f_X8_text_110 mm) (B + 59) v2 M1 else ck (gK M1 (B + 59) = 8) (if (gI M1 (B + 59) 6) = (3 : Int32) then f_X8_text_144 (f_X8_text_110 mm) (B + 59) v2 M1 else ck (gK M1 (B + 59) = 8) (bd (f_X8_bad (B + 59) (1 : Int32) M1) fun v4 M3 => f_X8_text_144 (f_X8_text_110 mm) (B + 59) v4 M3))) (QR o)) hL (fun e Q q => ?_) (fun f2 T S l g hh pz pc Q le hN kN => ?_)
    · show Ok (if nI 0 = 0 then _ else _) _
      rw [if_pos (by decide)]
      exact z0 e Q q.1 q.2.toT
    · show Ok (if nI 1 = 0 then _ else _) _
      have h := hN.1
      have k4 : tkK n tp f2 ≤ 4 := by unfold tkK; (repeat' split) <;> omega
      have t6 : gI Q (B + 59) 6 = nI (tkK n tp f2) := h.2.1.2.2.1
      rw [if_neg (by decide), ck_t h.k8, t6, oS]
      by_cases e3 : tkK n tp f2 = 3
      · rw [if_pos e3, if_pos (show nI (tkK n tp f2) = (3 : Int32) by rw [e3]; rfl), f_X8_text_144, if_neg (by decide), ck_t h.k8]
        refine r_go2 h (fun Q2 h2 _ => ?_)
        have s16 : Q2.1 (B + 59) 16 = nI ln := (h2.sl (by omega)).trans ((kN.2.2 16 (by omega)).trans h16)
        have lt := nx_lt h.2.2.1.2 (show tkK n tp f2 ≠ 0 by omega)
        rw [ck_t h2.k8, ck_t h2.k8, nm_s, show gI Q2 (B + 59) 16 = nI ln from s16, nI_1]
        refine ih _ T S l g hh pz pc (ln + 1) mm _ ⟨h2.cnt (by omega), ?_, ?_, ?_, hN.2.2.2.2⟩ (hK.tr (kN.toT.tr (h2.2.2.2.2.2.2.2.toT.tr ⟨rfl, fun b b1 b2 b3 => sI_ne b1, fun j hj => sI_oth (by omega)⟩))) sI_hit (by omega) (by omega)
        · rw [sI_oth (by omega)]; exact (h2.sl (by omega)).trans hN.2.1
        · rw [sI_oth (by omega)]; exact (h2.sl (by omega)).trans hN.2.2.1
        · rw [sI_oth (by omega)]; exact (h2.sl (by omega)).trans hN.2.2.2.1
      · rw [if_neg e3, if_neg (show ¬ nI (tkK n tp f2) = (3 : Int32) by rw [show (3 : Int32) = nI 3 from rfl, nI_eq (by omega) (by omega)]; exact e3), ck_t h.k8]
        exact r_bad 1 h (fun N q => z0 _ N q.1 (kN.toT.tr q.2.toT))
end TZ3
