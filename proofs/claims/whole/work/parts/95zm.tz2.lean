/-! text: line by line -/
def pLine (n : Nat) (tp : Td) (f : Nat) (T S : Td) (l g hh pz pc : Nat) (k : Nat → Td → Td → Nat → Nat → Nat → Nat → Nat → Ou) : Ou :=
  if wdT n tp f = 408622 then pLoan n tp f T S l g (fun f T S => k f T S (l + 1) g hh pz pc)
  else if wdT n tp f = 284561586 then pHolder n tp f T S l g (fun f T S => k f T S l (g + 1) hh pz pc)
  else if wdT n tp f = 8892563 then pHolds n tp f T S l g hh (fun f T S => k f T S l g (hh + 1) pz pc)
  else if wdT n tp f = 17377093 then pPrize n tp f T S l pz (fun f T S => k f T S l g hh (pz + 1) pc)
  else if wdT n tp f = 17376357 then pPrice n tp f T S l pc (fun f T S => k f T S l g hh pz (pc + 1))
  else .inl (8 * f + 1)
def pLoop (n : Nat) (tp : Td) : Nat → Nat → Td → Td → Nat → Nat → Nat → Nat → Nat → Nat → Ou
  | 0, _, _, _, _, _, _, _, _, _ => .inl 0
  | m + 1, f, T, S, l, g, hh, pz, pc, ln => if tkK n tp f = 0 then .inr (T, S, ln) else pLine n tp f T S l g hh pz pc (fun f T S l g hh pz pc => oS n tp f (fun f => pLoop n tp m f T S l g hh pz pc (ln + 1)))
def QC (B d n : Nat) (tp : Td) (M0 : Mm) (o : Ou) (v : Int32) (N : Mm) : Prop := match o with
  | .inl e => v = (-2 : Int32) - nI e ∧ e < 6000 ∧ KcL B d M0 N
  | .inr (T, S, ln) => v = nI ln ∧ ln ≤ 700 ∧ KcL B d M0 N ∧ ∃ l g, CP B d n tp N n n T S l 0 g 0 N
section TZ2
variable {B d n f0 f l w g v i x c lo hi w2 v2 l2 g2 nn j q hh pz pc y ln : Nat} {tp T S T2 S2 : Td} {M0 M N P0 P Q R : Mm} {u : Int32}
theorem c_loop : ∀ (m f : Nat) (T S : Td) (l g hh pz pc ln mm : Nat) (M : Mm), LnC B d n tp f T S l g hh pz pc M → KcL B d M0 M → n - f < m → ln ≤ f → n - f < mm → Ok (f_X3_read_40 mm (B + 28) (nI ln) M) (QC B d n tp M0 (pLoop n tp m f T S l g hh pz pc ln)) := by
  intro m
  induction m with
  | zero => intro f T S l g hh pz pc ln mm M _ _ hm; omega
  | succ m ih =>
    intro f T S l g hh pz pc ln mm M hL hK hm hln hmm
    obtain ⟨mm, rfl⟩ : ∃ q, mm = q + 1 := ⟨mm - 1, by omega⟩
    have h := hL.1
    obtain ⟨-, b2, b3, b4, c2, c3, c4⟩ := id hL
    have hf := h.2.2.1.2.1
    have n7 := h.1.2.2.1
    have e2 : gI M (B + 28) 2 = nI n := h.1.2.1
    have e5 : gI M (B + 28) 5 = nI f := h.2.1.1
    have k3 : ∀ N, KcL B d M N → gK N (B + 28) = 3 := fun N q => by
      have a := h.k3
      unfold gK at a ⊢
      rw [q.1]; exact a
    rw [f_X3_read_40, ck_t h.k3, e2, if_neg (by rw [nI_ltI (by omega) (by omega)]; omega), ck_t h.k3, ck_t h.k3, e5, pLoop]
    by_cases e0 : n ≤ f
    · have fn : f = n := by omega
      subst fn
      rw [if_pos (by rw [nI_leI (by omega) (by omega)]; exact e0), if_pos (tk_0.mpr e0)]
      exact Ok_some.mpr ⟨rfl, by omega, hK, l, g, h⟩
    have k0 : ¬ tkK n tp f = 0 := fun q => e0 (tk_0.mp q)
    rw [if_neg (by rw [nI_leI (by omega) (by omega)]; exact e0), if_neg k0, pLine, ck_t h.k3, c_s0 h.1 h.2.1 hf, bd_s]
    have z0 : ∀ e N, FL B d M e N → Ok (ck (gK N (B + 28) = 3) (some ((-2 : Int32) - (gI N (B + 28) 8), N))) (QC B d n tp M0 (.inl e)) := fun e N q => by
      rw [ck_t (k3 N q.2.1), show gI N (B + 28) 8 = nI e from q.1]
      exact Ok_some.mpr ⟨rfl, q.2.2, hK.tr q.2.1⟩
    have z1 : ∀ f2 T S l g hh pz pc N, f < f2 → LnC B d n tp f2 T S l g hh pz pc N → KcL B d M N → Ok (f_X3_read_40 mm (B + 28) (nI ln + (1 : Int32)) N) (QC B d n tp M0 (pLoop n tp m f2 T S l g hh pz pc (ln + 1))) := fun f2 T S l g hh pz pc N lt hN kN => by
      rw [nI_1]
      exact ih f2 T S l g hh pz pc (ln + 1) mm N hN (hK.tr kN) (by omega) (by omega) (by omega)
    by_cases w0 : wdT n tp f = 408622
    · rw [if_pos w0, if_pos w0, if_neg (by decide), ck_t h.k3, Ok_bd]
      refine c_readLoan (k := fun f T S => pLoop n tp m f T S (l + 1) g hh pz pc (ln + 1)) (Ψ := fun o x N => Ok (if ¬ x = 0 then f_X3_read_40 mm (B + 28) (nI ln + (1 : Int32)) N else ck (gK N (B + 28) = 3) (some ((-2 : Int32) - (gI N (B + 28) 8), N))) (QC B d n tp M0 o)) h (by omega) (fun e N q => ?_) (fun f2 T S N lt q => ?_)
      · show Ok (if ¬ nI 0 = 0 then _ else _) _
        rw [if_neg (by decide)]; exact z0 e N (Fc.L KcL.rf q)
      · show Ok (if ¬ nI 1 = 0 then _ else _) _
        rw [if_pos (by decide)]; exact z1 f2 T S _ _ _ _ _ N lt (q.toL b2 b3 b4 ⟨c2, c3, c4⟩) q.2.2.2.2.2.2.L
    rw [if_neg w0, if_neg w0, if_pos (by decide), ck_t h.k3, c_s9 h.1 h.2.1 hf, bd_s]
    by_cases w9 : wdT n tp f = 284561586
    · rw [if_pos w9, if_pos w9, if_neg (by decide), ck_t h.k3, Ok_bd]
      refine c_readHolder (k := fun f T S => pLoop n tp m f T S l (g + 1) hh pz pc (ln + 1)) (Ψ := fun o x N => Ok (if ¬ x = 0 then f_X3_read_40 mm (B + 28) (nI ln + (1 : Int32)) N else ck (gK N (B + 28) = 3) (some ((-2 : Int32) - (gI N (B + 28) 8), N))) (QC B d n tp M0 o)) h (by omega) (fun e N q => ?_) (fun f2 T S N lt q => ?_)
      · show Ok (if ¬ nI 0 = 0 then _ else _) _
        rw [if_neg (by decide)]; exact z0 e N (Fc.L KcL.rf q)
      · show Ok (if ¬ nI 1 = 0 then _ else _) _
        rw [if_pos (by decide)]; exact z1 f2 T S _ _ _ _ _ N lt (q.toL b2 b3 b4 ⟨c2, c3, c4⟩) q.2.2.2.2.2.2.L
    rw [if_neg w9, if_neg w9, if_pos (by decide), ck_t h.k3, c_s11 h.1 h.2.1 hf, bd_s]
    by_cases w11 : wdT n tp f = 8892563
    · rw [if_pos w11, if_pos w11, if_neg (by decide), ck_t h.k3, Ok_bd]
      refine c_readHolds (k := fun f T S => pLoop n tp m f T S l g (hh + 1) pz pc (ln + 1)) (Ψ := fun o x N => Ok (if ¬ x = 0 then f_X3_read_40 mm (B + 28) (nI ln + (1 : Int32)) N else ck (gK N (B + 28) = 3) (some ((-2 : Int32) - (gI N (B + 28) 8), N))) (QC B d n tp M0 o)) hL (by omega) (fun e N q => ?_) (fun f2 T S N lt q q2 => ?_)
      · show Ok (if ¬ nI 0 = 0 then _ else _) _
        rw [if_neg (by decide)]; exact z0 e N q
      · show Ok (if ¬ nI 1 = 0 then _ else _) _
        rw [if_pos (by decide)]; exact z1 f2 T S _ _ _ _ _ N lt q q2
    rw [if_neg w11, if_neg w11, if_pos (by decide), ck_t h.k3, c_s12 h.1 h.2.1 hf, bd_s]
    by_cases w12 : wdT n tp f = 17377093
    · rw [if_pos w12, if_pos w12, if_neg (by decide), ck_t h.k3, Ok_bd]
      refine c_readPrize (k := fun f T S => pLoop n tp m f T S l g hh (pz + 1) pc (ln + 1)) (Ψ := fun o x N => Ok (if ¬ x = 0 then f_X3_read_40 mm (B + 28) (nI ln + (1 : Int32)) N else ck (gK N (B + 28) = 3) (some ((-2 : Int32) - (gI N (B + 28) 8), N))) (QC B d n tp M0 o)) hL (by omega) (fun e N q => ?_) (fun f2 T S N lt q q2 => ?_)
      · show Ok (if ¬ nI 0 = 0 then _ else _) _
        rw [if_neg (by decide)]; exact z0 e N q
      · show Ok (if ¬ nI 1 = 0 then _ else _) _
        rw [if_pos (by decide)]; exact z1 f2 T S _ _ _ _ _ N lt q q2
    rw [if_neg w12, if_neg w12, if_pos (by decide), ck_t h.k3, c_s13 h.1 h.2.1 hf, bd_s]
    by_cases w13 : wdT n tp f = 17376357
    · rw [if_pos w13, if_pos w13, if_neg (by decide), ck_t h.k3, Ok_bd]
      refine c_readPrice (k := fun f T S => pLoop n tp m f T S l g hh pz (pc + 1) (ln + 1)) (Ψ := fun o x N => Ok (if ¬ x = 0 then f_X3_read_40 mm (B + 28) (nI ln + (1 : Int32)) N else ck (gK N (B + 28) = 3) (some ((-2 : Int32) - (gI N (B + 28) 8), N))) (QC B d n tp M0 o)) hL (by omega) (fun e N q => ?_) (fun f2 T S N lt q q2 => ?_)
      · show Ok (if ¬ nI 0 = 0 then _ else _) _
        rw [if_neg (by decide)]; exact z0 e N q
      · show Ok (if ¬ nI 1 = 0 then _ else _) _
        rw [if_pos (by decide)]; exact z1 f2 T S _ _ _ _ _ N lt q q2
    rw [if_neg w13, if_neg w13, if_pos (by decide), ck_t h.k3]
    refine c_ref 1 h (fun N q => ?_)
    rw [if_neg (by decide)]; exact z0 _ N (Fc.L KcL.rf q)
theorem RP.toL (h : RP B n tp P f0 f T S l 0 g 0 Q) (h2 : P.1 (B + 59) 13 = nI hh) (h3 : P.1 (B + 59) 14 = nI pz) (h4 : P.1 (B + 59) 15 = nI pc) (hb : hh ≤ 20 ∧ pz ≤ 12 ∧ pc ≤ 24) : LnR B n tp f T S l g hh pz pc Q :=
  ⟨h.reb, (h.sl (by omega)).trans h2, (h.sl (by omega)).trans h3, (h.sl (by omega)).trans h4, hb⟩
theorem r_line {k : Nat → Td → Td → Nat → Nat → Nat → Nat → Nat → Ou} {Ψ : Ou → Int32 → Mm → Prop} (hL : LnR B n tp f T S l g hh pz pc P) (h0 : ∀ e Q, FrL B P e Q → Ψ (.inl e) (nI 0) Q) (h1 : ∀ f2 T S l g hh pz pc Q, f ≤ f2 → LnR B n tp f2 T S l g hh pz pc Q → KrL B P Q → Ψ (k f2 T S l g hh pz pc) (nI 1) Q) : Ok (f_X8_line (B + 59) P) (Ψ (pLine n tp f T S l g hh pz pc k)) := by
  have h := hL.1
  obtain ⟨-, b2, b3, b4, c2, c3, c4⟩ := id hL
  have z0 : ∀ e N, FrL B P e N → Ok (ck (nI 0 = 0 ∨ nI 0 = 1) (some (nI 0, N))) (Ψ (.inl e)) := fun e N q => ok_01 (Or.inl rfl) (h0 e N q)
  have z1 : ∀ f2 T S l g hh pz pc Q, f ≤ f2 → LnR B n tp f2 T S l g hh pz pc Q → KrL B P Q → Ok (ck (nI 1 = 0 ∨ nI 1 = 1) (some (nI 1, Q))) (Ψ (k f2 T S l g hh pz pc)) := fun f2 T S l g hh pz pc Q a b c => ok_01 (Or.inr rfl) (h1 _ _ _ _ _ _ _ _ _ a b c)
  rw [f_X8_line, ck_t h.k8, r_s0 h.1 h.2.1, bd_s, pLine]
  by_cases w0 : wdT n tp f = 408622
  · rw [if_pos w0, if_pos w0, if_neg (by decide), ck_t h.k8, Ok_bd]
    exact r_loanLine (k := fun f T S => k f T S (l + 1) g hh pz pc) (Ψ := fun o x N => Ok (ck (x = 0 ∨ x = 1) (some (x, N))) (Ψ o)) h (fun e N q => z0 e N q.L) (fun f2 T S N q => z1 f2 T S _ _ _ _ _ N q.2.2.1.1 (q.toL b2 b3 b4 ⟨c2, c3, c4⟩) q.2.2.2.2.2.2.2.L)
  rw [if_neg w0, if_neg w0, if_pos (by decide), ck_t h.k8, r_s9 h.1 h.2.1, bd_s]
  by_cases w9 : wdT n tp f = 284561586
  · rw [if_pos w9, if_pos w9, if_neg (by decide), ck_t h.k8, Ok_bd]
    exact r_holderLine (k := fun f T S => k f T S l (g + 1) hh pz pc) (Ψ := fun o x N => Ok (ck (x = 0 ∨ x = 1) (some (x, N))) (Ψ o)) h (fun e N q => z0 e N q.L) (fun f2 T S N q => z1 f2 T S _ _ _ _ _ N q.2.2.1.1 (q.toL b2 b3 b4 ⟨c2, c3, c4⟩) q.2.2.2.2.2.2.2.L)
  rw [if_neg w9, if_neg w9, if_pos (by decide), ck_t h.k8, r_s11 h.1 h.2.1, bd_s]
  by_cases w11 : wdT n tp f = 8892563
  · rw [if_pos w11, if_pos w11, if_neg (by decide), ck_t h.k8, Ok_bd]
    exact r_holdsLine (k := fun f T S => k f T S l g (hh + 1) pz pc) (Ψ := fun o x N => Ok (ck (x = 0 ∨ x = 1) (some (x, N))) (Ψ o)) hL (fun e N q => z0 e N q) (fun f2 T S N a q q2 => z1 f2 T S _ _ _ _ _ N a q q2)
  rw [if_neg w11, if_neg w11, if_pos (by decide), ck_t h.k8, r_s12 h.1 h.2.1, bd_s]
  by_cases w12 : wdT n tp f = 17377093
  · rw [if_pos w12, if_pos w12, if_neg (by decide), ck_t h.k8, Ok_bd]
    exact r_prizeLine (k := fun f T S => k f T S l g hh (pz + 1) pc) (Ψ := fun o x N => Ok (ck (x = 0 ∨ x = 1) (some (x, N))) (Ψ o)) hL (fun e N q => z0 e N q) (fun f2 T S N a q q2 => z1 f2 T S _ _ _ _ _ N a q q2)
  rw [if_neg w12, if_neg w12, if_pos (by decide), ck_t h.k8, r_s13 h.1 h.2.1, bd_s]
  by_cases w13 : wdT n tp f = 17376357
  · rw [if_pos w13, if_pos w13, if_neg (by decide), ck_t h.k8, Ok_bd]
    exact r_priceLine (k := fun f T S => k f T S l g hh pz (pc + 1)) (Ψ := fun o x N => Ok (ck (x = 0 ∨ x = 1) (some (x, N))) (Ψ o)) hL (fun e N q => z0 e N q) (fun f2 T S N a q q2 => z1 f2 T S _ _ _ _ _ N a q q2)
  rw [if_neg w13, if_neg w13, if_pos (by decide), ck_t h.k8]
  exact r_bad 1 h (fun N q => z0 _ N q.L)
end TZ2
