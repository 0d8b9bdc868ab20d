/-! text: what was read is as it may be; the reference's whole call -/
section TZ7
variable {B d n fed l g c ln : Nat} {tp T S : Td} {M N P Q : Mm} {I : Im}
theorem dw_TW (h : DW T S l 0 g 0) : TW T := by
  have hb := h.b
  have T0 := h.1
  have T1 := h.2.1
  refine ⟨by omega, by omega, fun k hk => ?_⟩
  have kl : k < l ∨ k = l ∧ 0 + 2 ≤ 0 := Or.inl (by omega)
  have f := fun j (hj : j < 7) => h.2.2.2.2.2.1 k j hj (Or.inl (by omega))
  have f0 : 1 ≤ T (12 + 7 * k) ∧ T (12 + 7 * k) ≤ 60 := f 0 (by omega)
  have f1 : 1 ≤ T (12 + 7 * k + 1) ∧ T (12 + 7 * k + 1) ≤ 999 := f 1 (by omega)
  have f2 : 0 ≤ T (12 + 7 * k + 2) ∧ T (12 + 7 * k + 2) ≤ 99 := f 2 (by omega)
  have f3 : 1 ≤ T (12 + 7 * k + 3) ∧ T (12 + 7 * k + 3) ≤ 20 := f 3 (by omega)
  have f4 : 0 ≤ T (12 + 7 * k + 4) ∧ T (12 + 7 * k + 4) ≤ 2 := f 4 (by omega)
  have f5 : 0 ≤ T (12 + 7 * k + 5) ∧ T (12 + 7 * k + 5) ≤ 99999 := f 5 (by omega)
  have f6 : 1 ≤ T (12 + 7 * k + 6) ∧ T (12 + 7 * k + 6) ≤ 20 := f 6 (by omega)
  refine ⟨f0.1, f0.2, f1.1, f1.2, f2.2, f3.1, f3.2, f4.2, f5.2, f6.1, f6.2, fun r hr => ?_⟩
  rw [Nat.add_assoc]
  exact h.2.2.2.2.2.2.2.2.2.1 (10 * k + r) (by omega)
theorem cd_CT (hC : CD I d T S l 0 g 0) (h : DW T S l 0 g 0) : CT I d T := by
  have hb := h.b
  have T0 := h.1
  have T1 := h.2.1
  refine ⟨by rw [T0]; exact hC.1, by rw [T1]; exact hC.2.1, fun k hk => ?_, fun k hk r r1 r2 => ?_⟩
  · have f := fun j (hj : j < 7) => hC.2.2.2.1 k j hj (Or.inl (by omega))
    exact ⟨f 0 (by omega), f 1 (by omega), f 2 (by omega), f 3 (by omega), f 4 (by omega), f 5 (by omega), f 6 (by omega)⟩
  · rw [Nat.add_assoc]
    exact hC.2.2.2.2.2.2.2.1 (10 * k + r) (by omega)
theorem shZ {k i w : Nat} (h0 : S (60 * k + i) = 0) (h6 : S 1206 = 0) : shS T S k i w = 0 := by
  unfold shS
  split
  · rw [if_pos h0, h6, Nat.mul_zero]
  · rw [if_neg (by omega)]
  · rw [if_neg (by omega)]
  · rw [if_neg (by omega)]
  · rw [if_neg (by omega)]
  · rw [if_neg (by omega)]
theorem dw_SW (h : DW T S l 0 g 0) : SW T S c := by
  have hb := h.b
  have T0 := h.1
  have T1 := h.2.1
  have hT := dw_TW h
  have zr := h.2.2.2.2.2.2.2.2.2.2.2.2
  have z6 : S 1206 = 0 := zr 1206 (by omega)
  have zb : ∀ k, k < T 0 → ∀ i, i < T (12 + 7 * k) → i < 60 := fun k hk i hi => by
    have := (hT.2.2 k hk).2.1
    omega
  refine ⟨by omega, fun k hk => ?_, fun k hk => ?_, fun k hk y y1 y2 => ⟨?_, fun q => by omega⟩, fun k hk i hi => ?_, fun k hk w w1 w2 => ?_, fun k hk p0 y0 => ?_⟩
  · have := h.2.2.2.2.2.2.2.1 k (Or.inl (by omega))
    omega
  · have a := h.2.2.2.2.2.2.2.2.2.2.2.1 k (by omega)
    have b := zr (1211 + k) (by omega)
    rw [b]
    exact ⟨by omega, by omega, Nat.zero_le _⟩
  · have := (hT.2.2 k hk).2.2.2.2.2.2.1
    rw [Nat.add_assoc]
    exact h.2.2.2.2.2.2.2.2.2.2.1 (21 * k + y) (by omega)
  · have i6 := zb k hk i hi
    have t3 := (hT.2.2 k hk).2.2.2.2.2.1
    have a0 := zr (60 * k + i) (by omega)
    have a4 := zr (480 + 60 * k + i) (by omega)
    have a7 := zr (720 + 60 * k + i) (by omega)
    have a9 := zr (960 + 60 * k + i) (by omega)
    have ow := h.2.2.2.2.2.2.2.2.1 (60 * k + i) (by omega)
    rw [← Nat.add_assoc] at ow
    refine ⟨by omega, by omega, by omega, by omega, by omega, fun _ => a7, fun q => absurd a0 q, fun q => by omega, fun q => by omega, ?_⟩
    rw [a9, shZ a0 z6, shZ a0 z6, shZ a0 z6]
  · have e : fb_sm (fun i => shS T S k i w) (T (12 + 7 * k)) = fb_sm (fun _ => 0) (T (12 + 7 * k)) := fb_sm_cong (fun i hi => by
      have i6 := zb k hk i hi
      exact shZ (zr (60 * k + i) (by omega)) z6)
    rw [e, fb_sm_const, Nat.mul_zero]
    exact zr (1383 + 6 * k + w) (by omega)
  · have e : ctS T S k 0 = T (12 + 7 * k) := fb_ct_all.mpr (fun i hi => by
      have i6 := zb k hk i hi
      exact decide_eq_true (zr (60 * k + i) (by omega)))
    rw [e, z6, Nat.mul_zero, Nat.zero_div, Nat.add_zero]
def ReadR (B : Nat) (P : Mm) (o : Ou) (v : Int32) (Q : Mm) : Prop := match o with
  | .inl e => v = (-2 : Int32) - nI e ∧ Q.2 = P.2 ∧ (∀ b, b ≠ B + 59 → b ≠ B + 62 → b ≠ B + 64 → Q.1 b = P.1 b) ∧ Q.1 (B + 59) 2 = nI 0 ∧ Q.1 (B + 59) 23 = P.1 (B + 59) 23
  | .inr (T, S, ln) => v = nI ln ∧ Q.2 = P.2 ∧ RW 80 (Q.1 (B + 61)) T ∧ RW 1407 (Q.1 (B + 63)) S ∧ Q.1 (B + 59) 2 = nI 0 ∧ Q.1 (B + 59) 23 = nI 0 ∧ (∀ k, k < 2 → Q.1 (B + 66) k = nI 0) ∧ (∀ b, b ≠ B + 59 → b ≠ B + 61 → b ≠ B + 62 → b ≠ B + 63 → b ≠ B + 64 → b ≠ B + 66 → Q.1 b = P.1 b)
theorem r_text (hD : RfA B P.2.2) (h2 : P.1 (B + 59) 2 = nI fed) (h7 : fed ≤ 700) (hn : n ≤ fed) (htp : ∀ k, k < fed → P.1 (B + 60) k &&& 255 = nI (tp k) ∧ tp k < 256) : Ok (f_X8_text (B + 59) (nI n) P) (ReadR B P (pLoop n tp (n + 1) (skB tp (n - 0) 0) zrN zrN 0 0 0 0 0 0)) := by
  generalize hP1 : sI P (B + 59) 0 (0 : Int32) = P1
  have p1 : P1.2 = P.2 := by rw [← hP1]; rfl
  have s2 : gI P1 (B + 59) 2 = nI fed := by
    show P1.1 (B + 59) 2 = _
    rw [← hP1, sI_oth (by omega)]; exact h2
  have wt : f_X8_within (nI n).toInt64 (0 : Int64) (nI fed).toInt64 P1 = some (nI 1, P1) := by
    have := wi (nI n) (lo := 0) (by omega) (nI fed) P1
    rw [if_neg (by rw [nI_ltI (by omega) (by omega)]; omega), if_neg (by rw [nI_ltI (by omega) (by omega)]; omega)] at this
    exact this
  have kk : ∀ Q : Mm, Q.2 = P.2 → gK Q (B + 59) = 8 := fun Q q => rk8 hD q
  rw [f_X8_text, ck_t (kk P rfl), nm_s, hP1, ck_t (kk P1 p1), s2, wt, bd_s, if_pos (by decide), ck_t (kk P1 p1), nm_s]
  rw [ck_t (kk (sI P1 (B + 59) 3 (nI n)) p1), nm_s]
  rw [ck_t (kk (sI (sI P1 (B + 59) 3 (nI n)) (B + 59) 2 (0 : Int32)) p1), nm_s]
  rw [ck_t (kk (sI (sI (sI P1 (B + 59) 3 (nI n)) (B + 59) 2 (0 : Int32)) (B + 59) 5 (0 : Int32)) p1), nm_s]
  rw [ck_t (kk (sI (sI (sI (sI P1 (B + 59) 3 (nI n)) (B + 59) 2 (0 : Int32)) (B + 59) 5 (0 : Int32)) (B + 59) 9 (0 : Int32)) p1), nm_s]
  rw [ck_t (kk (sI (sI (sI (sI (sI P1 (B + 59) 3 (nI n)) (B + 59) 2 (0 : Int32)) (B + 59) 5 (0 : Int32)) (B + 59) 9 (0 : Int32)) (B + 59) 16 (0 : Int32)) p1), nm_s]
  rw [ck_t (kk (sI (sI (sI (sI (sI (sI P1 (B + 59) 3 (nI n)) (B + 59) 2 (0 : Int32)) (B + 59) 5 (0 : Int32)) (B + 59) 9 (0 : Int32)) (B + 59) 16 (0 : Int32)) (B + 59) 13 (0 : Int32)) p1), nm_s]
  rw [ck_t (kk (sI (sI (sI (sI (sI (sI (sI P1 (B + 59) 3 (nI n)) (B + 59) 2 (0 : Int32)) (B + 59) 5 (0 : Int32)) (B + 59) 9 (0 : Int32)) (B + 59) 16 (0 : Int32)) (B + 59) 13 (0 : Int32)) (B + 59) 14 (0 : Int32)) p1), nm_s]
  generalize hPb : sI (sI (sI (sI (sI (sI (sI (sI P1 (B + 59) 3 (nI n)) (B + 59) 2 (0 : Int32)) (B + 59) 5 (0 : Int32)) (B + 59) 9 (0 : Int32)) (B + 59) 16 (0 : Int32)) (B + 59) 13 (0 : Int32)) (B + 59) 14 (0 : Int32)) (B + 59) 15 (0 : Int32) = Pb
  have pb : Pb.2 = P.2 := by rw [← hPb]; exact p1
  have ob : ∀ b, b ≠ B + 59 → Pb.1 b = P.1 b := fun b hb => by rw [← hPb, sI_ne hb, sI_ne hb, sI_ne hb, sI_ne hb, sI_ne hb, sI_ne hb, sI_ne hb, sI_ne hb, ← hP1, sI_ne hb]
  have b15 : Pb.1 (B + 59) 15 = nI 0 := by rw [← hPb, sI_hit]; rfl
  have b14 : Pb.1 (B + 59) 14 = nI 0 := by rw [← hPb, sI_oth (by omega), sI_hit]; rfl
  have b13 : Pb.1 (B + 59) 13 = nI 0 := by rw [← hPb, sI_oth (by omega), sI_oth (by omega), sI_hit]; rfl
  have b16 : Pb.1 (B + 59) 16 = nI 0 := by rw [← hPb, sI_oth (by omega), sI_oth (by omega), sI_oth (by omega), sI_hit]; rfl
  have b9 : Pb.1 (B + 59) 9 = nI 0 := by rw [← hPb, sI_oth (by omega), sI_oth (by omega), sI_oth (by omega), sI_oth (by omega), sI_hit]; rfl
  have b5 : Pb.1 (B + 59) 5 = nI 0 := by rw [← hPb, sI_oth (by omega), sI_oth (by omega), sI_oth (by omega), sI_oth (by omega), sI_oth (by omega), sI_hit]; rfl
  have b2 : Pb.1 (B + 59) 2 = nI 0 := by rw [← hPb, sI_oth (by omega), sI_oth (by omega), sI_oth (by omega), sI_oth (by omega), sI_oth (by omega), sI_oth (by omega), sI_hit]; rfl
  have b3 : Pb.1 (B + 59) 3 = nI n := by rw [← hPb, sI_oth (by omega), sI_oth (by omega), sI_oth (by omega), sI_oth (by omega), sI_oth (by omega), sI_oth (by omega), sI_oth (by omega), sI_hit]
  have b23 : Pb.1 (B + 59) 23 = P.1 (B + 59) 23 := by rw [← hPb, sI_oth (by omega), sI_oth (by omega), sI_oth (by omega), sI_oth (by omega), sI_oth (by omega), sI_oth (by omega), sI_oth (by omega), sI_oth (by omega), ← hP1, sI_oth (by omega)]
  clear hPb
  obtain ⟨R1, u1, u2, u3, u4⟩ := r_63 hD 80 0 FU Pb pb (by omega) (by unfold FU; omega) (fun k hk => by omega)
  obtain ⟨R2, v1, v2, v3, v4⟩ := r_84 hD 1407 0 FU R1 u2 (by omega) (by unfold FU; omega) (fun k hk => by omega)
  have o2 : R2.1 (B + 59) = Pb.1 (B + 59) := by rw [v3 _ (by omega), u3 _ (by omega)]
  have g2 : GT B R2 n tp := ⟨by rw [v2]; exact hD, by rw [o2]; exact b3, by omega, fun k hk => by rw [v3 _ (by omega), u3 _ (by omega), ob _ (by omega)]; exact htp k (by omega)⟩
  obtain ⟨Q, q1, q2, q3⟩ := g_go g2 (p := 0) (by rw [o2]; exact b5) (Nat.zero_le n)
  have le := skB_le (tp := tp) (d := n - 0) (k := 0)
  have mQ : Q.2 = P.2 := q2.1.trans v2
  have sQ : ∀ j, (j < 4 ∨ 8 < j) → Q.1 (B + 59) j = Pb.1 (B + 59) j := fun j hj => by rw [q2.2.2 j hj, o2]
  have oQ : ∀ b, b ≠ B + 59 → b ≠ B + 62 → b ≠ B + 64 → Q.1 b = P.1 b := fun b h1 h2 h3 => by rw [q2.2.1 b h1, v3 b h3, u3 b h2, ob b h1]
  have hQ : LnR B n tp (skB tp (n - 0) 0) zrN zrN 0 0 0 0 0 Q := by
    refine ⟨⟨⟨by rw [mQ]; exact hD, by rw [sQ 3 (by omega)]; exact b3, by omega, fun k hk => by rw [oQ _ (by omega) (by omega) (by omega)]; exact htp k (by omega)⟩, q3, ⟨Nat.le_refl _, by omega⟩, fun k hk => ?_, fun k hk => ?_, by rw [sQ 9 (by omega)]; exact b9, dw_0, Kr.rf⟩, by rw [sQ 13 (by omega)]; exact b13, by rw [sQ 14 (by omega)]; exact b14, by rw [sQ 15 (by omega)]; exact b15, by omega, by omega, by omega⟩
    · rw [q2.2.1 _ (by omega), v3 _ (by omega)]; exact u4 k hk
    · rw [q2.2.1 _ (by omega)]; exact v4 k hk
  rw [show (0 : Int32) = nI 0 from rfl, u1, show (0 : Int32) = nI 0 from rfl, v1, q1, bd_s]
  refine r_loop (P0 := Q) (QR := ReadR B P) (fun e R e9 k => ⟨rfl, k.1.trans mQ, fun b h1 h2 h3 => by rw [k.2.1 b h1 h2 h3, oQ b h1 h2 h3], by rw [k.2.2 2 (by omega), sQ 2 (by omega)]; exact b2, by rw [k.2.2 23 (by omega), sQ 23 (by omega)]; exact b23⟩) (fun T S l g ln R h e16 k => ?_) (n + 1) (skB tp (n - 0) 0) zrN zrN 0 0 0 0 0 0 FU Q hQ ⟨rfl, fun _ _ _ _ => rfl, fun _ _ => rfl⟩ (by rw [sQ 16 (by omega)]; exact b16) (by omega) (by unfold FU; omega)
  obtain ⟨Z, z1, z2, z3, z4, z5, z6, z7, z8⟩ := r_179 (P := R) h.1.1 h.2.2.2.1 h.2.2.2.2.1 e16 80 0 FU R rfl (fun _ _ => rfl) (fun k hk => by omega) (by omega) (by unfold FU; omega)
  refine ⟨nI ln, Z, z1, rfl, z2.trans (k.1.trans mQ), z3, z4, ?_, z5, z6, fun b h1 h2 h3 h4 h5 h6 => ?_⟩
  · rw [z8 2 (by omega), k.2.2 2 (by omega), sQ 2 (by omega)]; exact b2
  · rw [z7 b h1 h2 h4 h6, k.2.1 b h1 h3 h5, oQ b h1 h3 h5]
end TZ7
