theorem dJ0_length_8abf5_0 : decode cJ0_length_8abf5 0 = .ok (.aload_n 0, 1) := by decide +kernel
theorem dJ0_length_8abf5_1 : decode cJ0_length_8abf5 1 = .ok (.getfield 9, 3) := by decide +kernel
theorem dJ0_length_8abf5_4 : decode cJ0_length_8abf5 4 = .ok (.arraylength, 1) := by decide +kernel
theorem dJ0_length_8abf5_5 : decode cJ0_length_8abf5 5 = .ok (.aload_n 0, 1) := by decide +kernel
theorem dJ0_length_8abf5_6 : decode cJ0_length_8abf5 6 = .ok (.invokevirtual 335, 3) := by decide +kernel
theorem dJ0_length_8abf5_9 : decode cJ0_length_8abf5 9 = .ok (.ishr, 1) := by decide +kernel
theorem dJ0_length_8abf5_10 : decode cJ0_length_8abf5 10 = .ok (.ireturn, 1) := by decide +kernel
theorem cal_J0_length_8abf5 : CalOk yJ0_length_8abf5 cJ0_length_8abf5 1 (some .int) 0 := ⟨wm_2_186, wm_1_12, by decide, by decide, by decide +kernel⟩
theorem dJ0_coder_7d493_0 : decode cJ0_coder_7d493 0 = .ok (.getstatic 38, 3) := by decide +kernel
theorem dJ0_coder_7d493_3 : decode cJ0_coder_7d493 3 = .ok (.ifCond .eq 10, 3) := by decide +kernel
theorem dJ0_coder_7d493_6 : decode cJ0_coder_7d493 6 = .ok (.aload_n 0, 1) := by decide +kernel
theorem dJ0_coder_7d493_7 : decode cJ0_coder_7d493 7 = .ok (.getfield 15, 3) := by decide +kernel
theorem dJ0_coder_7d493_10 : decode cJ0_coder_7d493 10 = .ok (.goto 4, 3) := by decide +kernel
theorem dJ0_coder_7d493_13 : decode cJ0_coder_7d493 13 = .ok (.iconst 1, 1) := by decide +kernel
theorem dJ0_coder_7d493_14 : decode cJ0_coder_7d493 14 = .ok (.ireturn, 1) := by decide +kernel
theorem cal_J0_coder_7d493 : CalOk yJ0_coder_7d493 cJ0_coder_7d493 1 (some .byte) 0 := ⟨wm_2_190, wm_1_12, by decide, by decide, by decide +kernel⟩
theorem dJ0_charAt_5068e_0 : decode cJ0_charAt_5068e 0 = .ok (.aload_n 0, 1) := by decide +kernel
theorem dJ0_charAt_5068e_1 : decode cJ0_charAt_5068e 1 = .ok (.invokevirtual 492, 3) := by decide +kernel
theorem dJ0_charAt_5068e_4 : decode cJ0_charAt_5068e 4 = .ok (.ifCond .eq 12, 3) := by decide +kernel
theorem dJ0_charAt_5068e_7 : decode cJ0_charAt_5068e 7 = .ok (.aload_n 0, 1) := by decide +kernel
theorem dJ0_charAt_5068e_8 : decode cJ0_charAt_5068e 8 = .ok (.getfield 9, 3) := by decide +kernel
theorem dJ0_charAt_5068e_11 : decode cJ0_charAt_5068e 11 = .ok (.iload_n 1, 1) := by decide +kernel
theorem dJ0_charAt_5068e_12 : decode cJ0_charAt_5068e 12 = .ok (.invokestatic 495, 3) := by decide +kernel
theorem dJ0_charAt_5068e_15 : decode cJ0_charAt_5068e 15 = .ok (.ireturn, 1) := by decide +kernel
theorem dJ0_charAt_5068e_16 : decode cJ0_charAt_5068e 16 = .ok (.aload_n 0, 1) := by decide +kernel
theorem dJ0_charAt_5068e_17 : decode cJ0_charAt_5068e 17 = .ok (.getfield 9, 3) := by decide +kernel
theorem dJ0_charAt_5068e_20 : decode cJ0_charAt_5068e 20 = .ok (.iload_n 1, 1) := by decide +kernel
theorem dJ0_charAt_5068e_21 : decode cJ0_charAt_5068e 21 = .ok (.invokestatic 498, 3) := by decide +kernel
theorem dJ0_charAt_5068e_24 : decode cJ0_charAt_5068e 24 = .ok (.ireturn, 1) := by decide +kernel
theorem cal_J0_charAt_5068e : CalOk yJ0_charAt_5068e cJ0_charAt_5068e 2 (some .char) 1 := ⟨wm_2_196, wm_1_12, by decide, by decide, by decide +kernel⟩
theorem dJ0_isLatin1_aae02_0 : decode cJ0_isLatin1_aae02 0 = .ok (.getstatic 38, 3) := by decide +kernel
theorem dJ0_isLatin1_aae02_3 : decode cJ0_isLatin1_aae02 3 = .ok (.ifCond .eq 14, 3) := by decide +kernel
theorem dJ0_isLatin1_aae02_6 : decode cJ0_isLatin1_aae02 6 = .ok (.aload_n 0, 1) := by decide +kernel
theorem dJ0_isLatin1_aae02_7 : decode cJ0_isLatin1_aae02 7 = .ok (.getfield 15, 3) := by decide +kernel
theorem dJ0_isLatin1_aae02_10 : decode cJ0_isLatin1_aae02 10 = .ok (.ifCond .ne 7, 3) := by decide +kernel
theorem dJ0_isLatin1_aae02_13 : decode cJ0_isLatin1_aae02 13 = .ok (.iconst 1, 1) := by decide +kernel
theorem dJ0_isLatin1_aae02_14 : decode cJ0_isLatin1_aae02 14 = .ok (.goto 4, 3) := by decide +kernel
theorem dJ0_isLatin1_aae02_17 : decode cJ0_isLatin1_aae02 17 = .ok (.iconst 0, 1) := by decide +kernel
theorem dJ0_isLatin1_aae02_18 : decode cJ0_isLatin1_aae02 18 = .ok (.ireturn, 1) := by decide +kernel
theorem cal_J0_isLatin1_aae02 : CalOk yJ0_isLatin1_aae02 cJ0_isLatin1_aae02 1 (some .boolean) 0 := ⟨wm_2_200, wm_1_12, by decide, by decide, by decide +kernel⟩
theorem dJ1_charAt_3b067_0 : decode cJ1_charAt_3b067 0 = .ok (.iload_n 1, 1) := by decide +kernel
theorem dJ1_charAt_3b067_1 : decode cJ1_charAt_3b067 1 = .ok (.aload_n 0, 1) := by decide +kernel
theorem dJ1_charAt_3b067_2 : decode cJ1_charAt_3b067 2 = .ok (.arraylength, 1) := by decide +kernel
theorem dJ1_charAt_3b067_3 : decode cJ1_charAt_3b067 3 = .ok (.invokestatic 9, 3) := by decide +kernel
theorem dJ1_charAt_3b067_6 : decode cJ1_charAt_3b067 6 = .ok (.aload_n 0, 1) := by decide +kernel
theorem dJ1_charAt_3b067_7 : decode cJ1_charAt_3b067 7 = .ok (.iload_n 1, 1) := by decide +kernel
theorem dJ1_charAt_3b067_8 : decode cJ1_charAt_3b067 8 = .ok (.baload, 1) := by decide +kernel
theorem dJ1_charAt_3b067_9 : decode cJ1_charAt_3b067 9 = .ok (.sipush 255, 3) := by decide +kernel
theorem dJ1_charAt_3b067_12 : decode cJ1_charAt_3b067 12 = .ok (.iand, 1) := by decide +kernel
theorem dJ1_charAt_3b067_13 : decode cJ1_charAt_3b067 13 = .ok (.i2c, 1) := by decide +kernel
theorem dJ1_charAt_3b067_14 : decode cJ1_charAt_3b067 14 = .ok (.ireturn, 1) := by decide +kernel
theorem cal_J1_charAt_3b067 : CalOk yJ1_charAt_3b067 cJ1_charAt_3b067 2 (some .char) 2 := ⟨wm_2_203, wm_1_13, by decide, by decide, by decide +kernel⟩
theorem dJ0_checkIndex_df160_0 : decode cJ0_checkIndex_df160 0 = .ok (.iload_n 0, 1) := by decide +kernel
theorem dJ0_checkIndex_df160_1 : decode cJ0_checkIndex_df160 1 = .ok (.iload_n 1, 1) := by decide +kernel
theorem dJ0_checkIndex_df160_2 : decode cJ0_checkIndex_df160 2 = .ok (.getstatic 1053, 3) := by decide +kernel
theorem dJ0_checkIndex_df160_5 : decode cJ0_checkIndex_df160 5 = .ok (.invokestatic 1059, 3) := by decide +kernel
theorem dJ0_checkIndex_df160_8 : decode cJ0_checkIndex_df160 8 = .ok (.pop, 1) := by decide +kernel
theorem dJ0_checkIndex_df160_9 : decode cJ0_checkIndex_df160 9 = .ok (.return_, 1) := by decide +kernel
theorem cal_J0_checkIndex_df160 : CalOk yJ0_checkIndex_df160 cJ0_checkIndex_df160 2 none 2 := ⟨wm_2_206, wm_1_12, by decide, by decide, by decide +kernel⟩
theorem dJ3_checkIndex_8e157_0 : decode cJ3_checkIndex_8e157 0 = .ok (.iload_n 0, 1) := by decide +kernel
theorem dJ3_checkIndex_8e157_1 : decode cJ3_checkIndex_8e157 1 = .ok (.ifCond .lt 8, 3) := by decide +kernel
theorem dJ3_checkIndex_8e157_4 : decode cJ3_checkIndex_8e157 4 = .ok (.iload_n 0, 1) := by decide +kernel
theorem dJ3_checkIndex_8e157_5 : decode cJ3_checkIndex_8e157 5 = .ok (.iload_n 1, 1) := by decide +kernel
theorem dJ3_checkIndex_8e157_6 : decode cJ3_checkIndex_8e157 6 = .ok (.if_icmp .lt 10, 3) := by decide +kernel
theorem dJ3_checkIndex_8e157_9 : decode cJ3_checkIndex_8e157 9 = .ok (.aload_n 2, 1) := by decide +kernel
theorem dJ3_checkIndex_8e157_10 : decode cJ3_checkIndex_8e157 10 = .ok (.iload_n 0, 1) := by decide +kernel
theorem dJ3_checkIndex_8e157_11 : decode cJ3_checkIndex_8e157 11 = .ok (.iload_n 1, 1) := by decide +kernel
theorem dJ3_checkIndex_8e157_12 : decode cJ3_checkIndex_8e157 12 = .ok (.invokestatic 95, 3) := by decide +kernel
theorem dJ3_checkIndex_8e157_15 : decode cJ3_checkIndex_8e157 15 = .ok (.athrow, 1) := by decide +kernel
theorem dJ3_checkIndex_8e157_16 : decode cJ3_checkIndex_8e157 16 = .ok (.iload_n 0, 1) := by decide +kernel
theorem dJ3_checkIndex_8e157_17 : decode cJ3_checkIndex_8e157 17 = .ok (.ireturn, 1) := by decide +kernel
theorem cal_J3_checkIndex_8e157 : CalOk yJ3_checkIndex_8e157 cJ3_checkIndex_8e157 3 (some .int) 3 := ⟨wm_2_211, wm_1_14, by decide, by decide, by decide +kernel⟩
abbrev rJ3_checkIndex_8e157 : Room := { frames := 0, cells := 0, slots := 0, locals := 0 }
abbrev rJ0_checkIndex_df160 : Room := { frames := 1, cells := 0, slots := 0, locals := 22 }
abbrev rJ1_charAt_3b067 : Room := { frames := 2, cells := 0, slots := 0, locals := 43 }
abbrev rJ0_coder_7d493 : Room := { frames := 0, cells := 0, slots := 0, locals := 0 }
abbrev rJ0_isLatin1_aae02 : Room := { frames := 0, cells := 0, slots := 0, locals := 0 }
abbrev rJ0_length_8abf5 : Room := { frames := 2, cells := 0, slots := 0, locals := 60 }
abbrev rJ0_charAt_5068e : Room := { frames := 5, cells := 0, slots := 0, locals := 130 }
def zV (z : Zt) (i : Nat) : Nat := z.1.2.2.2.2 i
section STR
variable {z : Zt} {own : String} {cc : ByteArray} {nL : Nat} {rm : Room} {ret : Option FieldType} {pc : Nat} {lv : List (Nat × Value)} {st : List Value} {M : Mm} {k n : Nat} {α : Type} {r : Option (α × Mm)} {K : α → Mm → Prop} {i j : Nat} {x : Int32}
theorem r_nret {ty : FieldType} {K : Int32 → Mm → Prop} (hz : Good z own cc nL rm (some ty)) (hq : Ret z zI K) (d : decode cc pc = .ok (.ireturn, 1)) (hn : narrow ty (.int x) = .int x) (h1 : k ≤ rm.cells) (h2 : n ≤ rm.slots) : Sim z pc lv [.int x] M k n (some (x, M)) K := by
  obtain ⟨g, p, l, e, R, s, m, args, below, meth, c, nLq, Q⟩ := z
  intro v0 M0 hr hK H locs ls hH hB hL hl
  cases hr
  obtain ⟨hx, hb, hml, hown, hts, hKN, hlk, -, hRm, hrt⟩ := hz
  subst hRm
  have hQ : Q = _ := hq x M hK
  subst hQ
  refine W.widen (k := R.cells) (n := R.slots) h1 h2 ?_
  exact W.zret (v := x) hx hb hrt hn (fun t ht _ => ⟨rfl, by rw [ht]; exact hH, fun q hq => by rw [ht]; exact hB q hq⟩) hL d hlk
theorem r_getCS (hz : Good z own cc nL rm ret) (d : decode cc pc = .ok (.getstatic j, 3)) (hw : Cond.fieldLink own j "java/lang/String" "COMPACT_STRINGS" "Z" ∈ Wd) (h0 : Sim z (pc + 3) lv (.int 1 :: st) M k n r K) : Sim z pc lv st M k n r K := by
  obtain ⟨g, p, l, e, R, s, m, args, below, meth, c, nLq, Q⟩ := z
  intro v0 M0 hr hK H locs ls hH hB hL hl
  obtain ⟨hx, hb, hml, hown, hts, hKN, hlk, -, -, -⟩ := hz
  obtain ⟨cf, kf, fi, f, a, cell, h1, h2, h3, h4, h5, h6, h7, h8⟩ := hKN.2.2.2.2.1
  exact W.gets hx hb hown (hts _ hw) h1 h2 h3 h4 (by rw [hB a (Nat.not_le.mp h8)]; exact h5) (fun e => by rw [e] at h6; cases h6) h7 rfl d (h0 v0 M0 hr hK H locs ls hH hB hL hl)
theorem r_getFm (hz : Good z own cc nL rm ret) (d : decode cc pc = .ok (.getstatic j, 3)) (hw : Cond.fieldLink own j "jdk/internal/util/Preconditions" "SIOOBE_FORMATTER" "Ljava/util/function/BiFunction;" ∈ Wd) (h0 : ∀ q : Option Nat, Sim z (pc + 3) lv (va_rf q :: st) M k n r K) : Sim z pc lv st M k n r K := by
  obtain ⟨g, p, l, e, R, s, m, args, below, meth, c, nLq, Q⟩ := z
  intro v0 M0 hr hK H locs ls hH hB hL hl
  obtain ⟨hx, hb, hml, hown, hts, hKN, hlk, -, -, -⟩ := hz
  rcases hKN.2.2.2.2.2.1 with hZ | ⟨t, hZ⟩
  · obtain ⟨cf, kf, fi, f, a, cell, h1, h2, h3, h4, h5, h6, h7, h8⟩ := hZ
    exact W.gets hx hb hown (hts _ hw) h1 h2 h3 h4 (by rw [hB a (Nat.not_le.mp h8)]; exact h5) (fun e => by rw [e] at h6; cases h6) h7 rfl d (h0 none v0 M0 hr hK H locs ls hH hB hL hl)
  · obtain ⟨cf, kf, fi, f, a, cell, h1, h2, h3, h4, h5, h6, h7, h8⟩ := hZ
    exact W.gets hx hb hown (hts _ hw) h1 h2 h3 h4 (by rw [hB a (Nat.not_le.mp h8)]; exact h5) (fun e => by rw [e] at h6; cases h6) h7 rfl d (h0 (some t) v0 M0 hr hK H locs ls hH hB hL hl)
theorem r_strV (hi : i < 16) (hz : Good z own cc nL rm ret) (d : decode cc pc = .ok (.getfield j, 3)) (hw : Cond.fieldLink own j "java/lang/String" "value" "[B" ∈ Wd) (h0 : Sim z (pc + 3) lv (.ref (zV z i) :: st) M k n r K) : Sim z pc lv (.ref (zS z i) :: st) M k n r K := by
  obtain ⟨g, p, l, e, R, s, m, args, below, meth, c, nLq, Q⟩ := z
  intro v0 M0 hr hK H locs ls hH hB hL hl
  obtain ⟨hx, hb, hml, hown, hts, hKN, hlk, -, -, -⟩ := hz
  obtain ⟨cf, kf, fi, f, cell, h1, h2, h3, h4, h5, h6⟩ := (hKN.2.2.1.1 i hi).2.2.1
  exact W.getf hx hb hown (hts _ hw) h1 h2 ((hB _ (Nat.not_le.mp h6)).trans h3) h4 h5 rfl rfl d (h0 v0 M0 hr hK H locs ls hH hB hL hl)
theorem r_strC (hi : i < 16) (hz : Good z own cc nL rm ret) (d : decode cc pc = .ok (.getfield j, 3)) (hw : Cond.fieldLink own j "java/lang/String" "coder" "B" ∈ Wd) (h0 : Sim z (pc + 3) lv (.int 0 :: st) M k n r K) : Sim z pc lv (.ref (zS z i) :: st) M k n r K := by
  obtain ⟨g, p, l, e, R, s, m, args, below, meth, c, nLq, Q⟩ := z
  intro v0 M0 hr hK H locs ls hH hB hL hl
  obtain ⟨hx, hb, hml, hown, hts, hKN, hlk, -, -, -⟩ := hz
  obtain ⟨cf, kf, fi, f, cell, h1, h2, h3, h4, h5, h6⟩ := (hKN.2.2.1.1 i hi).2.1
  exact W.getf hx hb hown (hts _ hw) h1 h2 ((hB _ (Nat.not_le.mp h6)).trans h3) h4 h5 rfl rfl d (h0 v0 M0 hr hK H locs ls hH hB hL hl)
theorem r_strN (hi : i < 16) (hz : Good z own cc nL rm ret) (d : decode cc pc = .ok (.arraylength, 1)) (h0 : Sim z (pc + 1) lv (.int (nI (snL.getD i 0)) :: st) M k n r K) : Sim z pc lv (.ref (zV z i) :: st) M k n r K := by
  obtain ⟨g, p, l, e, R, s, m, args, below, meth, c, nLq, Q⟩ := z
  intro v0 M0 hr hK H locs ls hH hB hL hl
  obtain ⟨hx, hb, hml, hown, hts, hKN, hlk, -, -, -⟩ := hz
  obtain ⟨cell, h1, h2, h3, h4, h5, h6, h7⟩ := (hKN.2.2.1.1 i hi).2.2.2
  exact W.alen (n := nI (snL.getD i 0)) hx hb ((hB _ (Nat.not_le.mp h7)).trans h1) h2 h5 rfl rfl d (h0 v0 M0 hr hK H locs ls hH hB hL hl)
theorem r_strA (hi : i < 16) (hx0 : inb x (snL.getD i 0)) (hz : Good z own cc nL rm ret) (d : decode cc pc = .ok (.baload, 1)) (h0 : Sim z (pc + 1) lv (.int ((sbL.getD i []).getD x.toNatClampNeg 0) :: st) M k n r K) : Sim z pc lv (.int x :: .ref (zV z i) :: st) M k n r K := by
  obtain ⟨g, p, l, e, R, s, m, args, below, meth, c, nLq, Q⟩ := z
  intro v0 M0 hr hK H locs ls hH hB hL hl
  obtain ⟨hx, hb, hml, hown, hts, hKN, hlk, -, -, -⟩ := hz
  obtain ⟨cell, h1, h2, h3, h4, h5, h6, h7⟩ := (hKN.2.2.1.1 i hi).2.2.2
  have hlt := in_lt hx0
  exact W.bald (v := .int ((sbL.getD i []).getD x.toNatClampNeg 0)) hx hb ((hB _ (Nat.not_le.mp h7)).trans h1) h2 h3 (fun q => q.elim (fun q => hx0 (Or.inl q)) (fun q => by omega)) (h6 _ hlt) rfl rfl d (h0 v0 M0 hr hK H locs ls hH hB hL hl)
end STR
theorem t_J0_coder_7d493 (p0 : Nat) (hp : p0 < 16) (M : Mm) : Ctr yJ0_coder_7d493 cJ0_coder_7d493 1 (some .byte) rJ0_coder_7d493 (fun g => [.ref (g.2.2.2.1 p0)]) M (zI 0) M := by
  refine ctr_of (by decide +kernel) (fun _ => Nat.le_of_ble_eq_true rfl) (fun z hz hin hq => ?_)
  have key : Sim z 0 [(0, .ref (zS z p0))] [] M 0 0 (if (1 : Int32) = 0 then none else some ((0 : Int32), M)) (fun a b => a = 0 ∧ b = M) := by
    have hq : Ret z zI (fun a b => a = 0 ∧ b = M) := fun a b e => by rw [e.1, e.2]; exact hq
    refine r_getCS hz dJ0_coder_7d493_0 wm_2_191 ?_
    refine r_if_eq (tgt := 13) hz dJ0_coder_7d493_3 rfl r_none ?_
    refine r_aload_n hz dJ0_coder_7d493_6 0 rfl ?_
    refine r_strC hp hz dJ0_coder_7d493_7 wm_7_118 ?_
    refine r_goto (tgt := 14) hz dJ0_coder_7d493_10 rfl ?_
    exact r_nret hz hq dJ0_coder_7d493_14 rfl (Nat.le_of_ble_eq_true rfl) (Nat.le_of_ble_eq_true rfl)
  exact key 0 M (by rw [if_neg (by decide)]) ⟨rfl, rfl⟩
theorem t_J0_isLatin1_aae02 (p0 : Nat) (hp : p0 < 16) (M : Mm) : Ctr yJ0_isLatin1_aae02 cJ0_isLatin1_aae02 1 (some .boolean) rJ0_isLatin1_aae02 (fun g => [.ref (g.2.2.2.1 p0)]) M (zI 1) M := by
  refine ctr_of (by decide +kernel) (fun _ => Nat.le_of_ble_eq_true rfl) (fun z hz hin hq => ?_)
  have key : Sim z 0 [(0, .ref (zS z p0))] [] M 0 0 (if (1 : Int32) = 0 then none else if ¬ (0 : Int32) = 0 then none else some ((1 : Int32), M)) (fun a b => a = 1 ∧ b = M) := by
    have hq : Ret z zI (fun a b => a = 1 ∧ b = M) := fun a b e => by rw [e.1, e.2]; exact hq
    refine r_getCS hz dJ0_isLatin1_aae02_0 wm_2_191 ?_
    refine r_if_eq (tgt := 17) hz dJ0_isLatin1_aae02_3 rfl r_none ?_
    refine r_aload_n hz dJ0_isLatin1_aae02_6 0 rfl ?_
    refine r_strC hp hz dJ0_isLatin1_aae02_7 wm_7_118 ?_
    refine r_if_ne (tgt := 17) hz dJ0_isLatin1_aae02_10 rfl r_none ?_
    refine r_iconst (v := 1) hz dJ0_isLatin1_aae02_13 rfl ?_
    refine r_goto (tgt := 18) hz dJ0_isLatin1_aae02_14 rfl ?_
    exact r_zret hz hq dJ0_isLatin1_aae02_18 (Or.inr rfl) (Nat.le_of_ble_eq_true rfl) (Nat.le_of_ble_eq_true rfl)
  exact key 1 M (by rw [if_neg (by decide), if_neg (by decide)]) ⟨rfl, rfl⟩
theorem t_J3_checkIndex_8e157 (x len : Int32) (q : Option Nat) (h1 : ¬ x < 0) (h2 : x < len) (M : Mm) : Ctr yJ3_checkIndex_8e157 cJ3_checkIndex_8e157 3 (some .int) rJ3_checkIndex_8e157 (fun _ => [.int x, .int len, va_rf q]) M (zI x) M := by
  refine ctr_of (by decide +kernel) (fun _ => by cases q <;> exact Nat.le_of_ble_eq_true rfl) (fun z hz hin hq => ?_)
  have key : Sim z 0 [(0, .int x), (1, .int len)] [] M 0 0 (if x < 0 then none else if x < len then some (x, M) else none) (fun a b => a = x ∧ b = M) := by
    have hq : Ret z zI (fun a b => a = x ∧ b = M) := fun a b e => by rw [e.1, e.2]; exact hq
    refine r_iload_n hz dJ3_checkIndex_8e157_0 0 rfl ?_
    refine r_if_lt (tgt := 9) hz dJ3_checkIndex_8e157_1 rfl r_none ?_
    refine r_iload_n hz dJ3_checkIndex_8e157_4 0 rfl ?_
    refine r_iload_n hz dJ3_checkIndex_8e157_5 1 rfl ?_
    refine r_icmp_lt (tgt := 16) hz dJ3_checkIndex_8e157_6 rfl ?_ r_none
    refine r_iload_n hz dJ3_checkIndex_8e157_16 0 rfl ?_
    exact r_iret hz hq dJ3_checkIndex_8e157_17 (Nat.le_of_ble_eq_true rfl) (Nat.le_of_ble_eq_true rfl)
  have key2 : Sim z 0 (lv_args 0 [.int x, .int len, va_rf q]) [] M 0 0 (if x < 0 then none else if x < len then some (x, M) else none) (fun a b => a = x ∧ b = M) := by
    cases q <;> exact r_sub [0, 1] rfl key
  exact key2 x M (by rw [if_neg h1, if_pos h2]) ⟨rfl, rfl⟩
theorem t_J0_checkIndex_df160 (x len : Int32) (h1 : ¬ x < 0) (h2 : x < len) (M : Mm) : Ctr yJ0_checkIndex_df160 cJ0_checkIndex_df160 2 none rJ0_checkIndex_df160 (fun _ => [.int x, .int len]) M (zU ()) M := by
  refine ctr_of (by decide +kernel) (fun _ => Nat.le_of_ble_eq_true rfl) (fun z hz hin hq => ?_)
  have key : Sim z 0 [(0, .int x), (1, .int len)] [] M 0 0 (bd (some (x, M)) fun _ M => some ((), M)) (fun a b => a = () ∧ b = M) := by
    have hq : Ret z zU (fun a b => a = () ∧ b = M) := fun a b e => by rw [e.1, e.2]; exact hq
    refine r_iload_n hz dJ0_checkIndex_df160_0 0 rfl ?_
    refine r_iload_n hz dJ0_checkIndex_df160_1 1 rfl ?_
    refine r_getFm hz dJ0_checkIndex_df160_2 wm_2_207 (fun q => ?_)
    refine r_callSi (As := fun _ => [.int x, .int len, va_rf q]) hz (fun _ _ h => by cases h; exact t_J3_checkIndex_8e157 x len q h1 h2 M) cal_J3_checkIndex_8e157 dJ0_checkIndex_df160_5 wm_2_209 wm_2_210 rfl rfl (Nat.le_of_ble_eq_true rfl) ⟨(Nat.le_of_ble_eq_true rfl), (Nat.le_of_ble_eq_true rfl)⟩ ⟨(Nat.le_of_ble_eq_true rfl), (Nat.le_of_ble_eq_true rfl)⟩ (fun v1 M1 => ?_)
    refine r_pop hz dJ0_checkIndex_df160_8 rfl ?_
    exact r_vret hz hq dJ0_checkIndex_df160_9 (Nat.le_of_ble_eq_true rfl) (Nat.le_of_ble_eq_true rfl)
  exact key () M rfl ⟨rfl, rfl⟩
theorem str_ok : ∀ i, i < 16 → snL.getD i 0 < 100 ∧ ∀ j, j < snL.getD i 0 → ((((sbL.getD i []).getD j 0) &&& 255).toUInt32 % 65536).toInt32 = (sbL.getD i []).getD j 0 ∧ narrow .char (.int ((sbL.getD i []).getD j 0)) = .int ((sbL.getD i []).getD j 0) := by decide +kernel
theorem t_J1_charAt_3b067 (p0 : Nat) (hp : p0 < 16) (x : Int32) (hx : inb x (snL.getD p0 0)) (M : Mm) : Ctr yJ1_charAt_3b067 cJ1_charAt_3b067 2 (some .char) rJ1_charAt_3b067 (fun g => [.ref (g.2.2.2.2 p0), .int x]) M (zI ((sbL.getD p0 []).getD x.toNatClampNeg 0)) M := by
  refine ctr_of (by decide +kernel) (fun _ => Nat.le_of_ble_eq_true rfl) (fun z hz hin hq => ?_)
  have hn := (str_ok p0 hp).1
  have hlt := in_lt hx
  obtain ⟨e1, e2⟩ := (str_ok p0 hp).2 _ hlt
  have hx0 : ¬ x < 0 := fun q => hx (Or.inl q)
  have hxl : x < nI (snL.getD p0 0) := by
    obtain ⟨j, hj, rfl⟩ := nI_of hx0
    rw [nI_clamp hj] at hlt
    exact nI_lt hlt (by omega)
  have key : Sim z 0 [(0, .ref (zV z p0)), (1, .int x)] [] M 0 0 (bd (some ((), M)) fun _ M => some ((sbL.getD p0 []).getD x.toNatClampNeg 0, M)) (fun a b => a = (sbL.getD p0 []).getD x.toNatClampNeg 0 ∧ b = M) := by
    have hq : Ret z zI (fun a b => a = (sbL.getD p0 []).getD x.toNatClampNeg 0 ∧ b = M) := fun a b e => by rw [e.1, e.2]; exact hq
    refine r_iload_n hz dJ1_charAt_3b067_0 1 rfl ?_
    refine r_aload_n hz dJ1_charAt_3b067_1 0 rfl ?_
    refine r_strN hp hz dJ1_charAt_3b067_2 ?_
    refine r_callSv (As := fun _ => [.int x, .int (nI (snL.getD p0 0))]) hz (fun _ _ h => by cases h; exact t_J0_checkIndex_df160 x _ hx0 hxl M) cal_J0_checkIndex_df160 dJ1_charAt_3b067_3 wm_2_204 wm_2_205 rfl rfl (Nat.le_of_ble_eq_true rfl) ⟨(Nat.le_of_ble_eq_true rfl), (Nat.le_of_ble_eq_true rfl)⟩ ⟨(Nat.le_of_ble_eq_true rfl), (Nat.le_of_ble_eq_true rfl)⟩ (fun _ M1 => ?_)
    refine r_aload_n hz dJ1_charAt_3b067_6 0 rfl ?_
    refine r_iload_n hz dJ1_charAt_3b067_7 1 rfl ?_
    refine r_strA hp hx hz dJ1_charAt_3b067_8 ?_
    refine r_sipush (v := 255) hz dJ1_charAt_3b067_9 rfl ?_
    refine r_iand hz dJ1_charAt_3b067_12 ?_
    refine r_i2c hz dJ1_charAt_3b067_13 ?_
    rw [e1]
    exact r_nret hz hq dJ1_charAt_3b067_14 e2 (Nat.le_of_ble_eq_true rfl) (Nat.le_of_ble_eq_true rfl)
  exact key _ M rfl ⟨rfl, rfl⟩
def f_J0_length_8abf5 (p0 : Nat) (M : Mm) : Option (Int32 × Mm) := ck (p0 < 16) (some (nI (snL.getD p0 0), M))
def f_J0_charAt_5068e (p0 : Nat) (p1 : Int32) (M : Mm) : Option (Int32 × Mm) := ck (p0 < 16 ∧ inb p1 (snL.getD p0 0)) (some ((sbL.getD p0 []).getD p1.toNatClampNeg 0, M))
theorem sh_0 : ∀ i, i < 16 → nI (snL.getD i 0) >>> ((0 : Int32) &&& 31) = nI (snL.getD i 0) := by decide +kernel
theorem t_J0_length_8abf5 (p0 : Nat) (M : Mm) (x : Int32) (M' : Mm) (h : f_J0_length_8abf5 p0 M = some (x, M')) : Ctr yJ0_length_8abf5 cJ0_length_8abf5 1 (some .int) rJ0_length_8abf5 (fun g => [.ref (g.2.2.2.1 p0)]) M (zI x) M' := by
  obtain ⟨hp, h⟩ := ck_some h
  cases h
  refine ctr_of (by decide +kernel) (fun _ => Nat.le_of_ble_eq_true rfl) (fun z hz hin hq => ?_)
  have key : Sim z 0 [(0, .ref (zS z p0))] [] M 0 0 (ck (p0 < 16) (bd (some ((0 : Int32), M)) fun v M => if v = 0 then some (nI (snL.getD p0 0), M) else none)) (fun a b => a = nI (snL.getD p0 0) ∧ b = M) := by
    have hq : Ret z zI (fun a b => a = nI (snL.getD p0 0) ∧ b = M) := fun a b e => by rw [e.1, e.2]; exact hq
    refine r_aload_n hz dJ0_length_8abf5_0 0 rfl ?_
    refine r_strV hp hz dJ0_length_8abf5_1 wm_7_117 ?_
    refine r_strN hp hz dJ0_length_8abf5_4 ?_
    refine r_aload_n hz dJ0_length_8abf5_5 0 rfl ?_
    refine r_callVs (As := fun _ => []) (j := p0) hz (fun _ _ h => by cases h; exact t_J0_coder_7d493 p0 hp M) cal_J0_coder_7d493 dJ0_length_8abf5_6 wm_2_187 wm_2_188 wm_2_189 rfl rfl (Nat.le_of_ble_eq_true rfl) ⟨(Nat.le_of_ble_eq_true rfl), (Nat.le_of_ble_eq_true rfl)⟩ ⟨(Nat.le_of_ble_eq_true rfl), (Nat.le_of_ble_eq_true rfl)⟩ (fun v1 M1 => ?_)
    by_cases hv : v1 = 0
    · subst hv
      rw [if_pos rfl]
      refine r_ishr hz dJ0_length_8abf5_9 ?_
      rw [sh_0 p0 hp]
      exact r_iret hz hq dJ0_length_8abf5_10 (Nat.le_of_ble_eq_true rfl) (Nat.le_of_ble_eq_true rfl)
    · rw [if_neg hv]
      exact r_none
  exact key _ M (by unfold ck; rw [if_pos hp]; simp [bd]) ⟨rfl, rfl⟩
theorem t_J0_charAt_5068e (p0 : Nat) (p1 : Int32) (M : Mm) (x : Int32) (M' : Mm) (h : f_J0_charAt_5068e p0 p1 M = some (x, M')) : Ctr yJ0_charAt_5068e cJ0_charAt_5068e 2 (some .char) rJ0_charAt_5068e (fun g => [.ref (g.2.2.2.1 p0), .int p1]) M (zI x) M' := by
  obtain ⟨⟨hp, hx⟩, h⟩ := ck_some h
  cases h
  refine ctr_of (by decide +kernel) (fun _ => Nat.le_of_ble_eq_true rfl) (fun z hz hin hq => ?_)
  have hlt := in_lt hx
  have e2 := ((str_ok p0 hp).2 _ hlt).2
  have key : Sim z 0 [(0, .ref (zS z p0)), (1, .int p1)] [] M 0 0 (ck (p0 < 16) (bd (some ((1 : Int32), M)) fun v M => (if v = 0 then none else bd (some ((sbL.getD p0 []).getD p1.toNatClampNeg 0, M)) fun w M => if w = (sbL.getD p0 []).getD p1.toNatClampNeg 0 then some (w, M) else none))) (fun a b => a = (sbL.getD p0 []).getD p1.toNatClampNeg 0 ∧ b = M) := by
    have hq : Ret z zI (fun a b => a = (sbL.getD p0 []).getD p1.toNatClampNeg 0 ∧ b = M) := fun a b e => by rw [e.1, e.2]; exact hq
    refine r_aload_n hz dJ0_charAt_5068e_0 0 rfl ?_
    refine r_callVs (As := fun _ => []) (j := p0) hz (fun _ _ h => by cases h; exact t_J0_isLatin1_aae02 p0 hp M) cal_J0_isLatin1_aae02 dJ0_charAt_5068e_1 wm_2_197 wm_2_198 wm_2_199 rfl rfl (Nat.le_of_ble_eq_true rfl) ⟨(Nat.le_of_ble_eq_true rfl), (Nat.le_of_ble_eq_true rfl)⟩ ⟨(Nat.le_of_ble_eq_true rfl), (Nat.le_of_ble_eq_true rfl)⟩ (fun v1 M1 => ?_)
    refine r_if_eq (tgt := 16) hz dJ0_charAt_5068e_4 rfl r_none ?_
    refine r_aload_n hz dJ0_charAt_5068e_7 0 rfl ?_
    refine r_strV hp hz dJ0_charAt_5068e_8 wm_7_117 ?_
    refine r_iload_n hz dJ0_charAt_5068e_11 1 rfl ?_
    refine r_callSi (As := fun g => [.ref (g.2.2.2.2 p0), .int p1]) hz (fun _ _ h => by cases h; exact t_J1_charAt_3b067 p0 hp p1 hx M1) cal_J1_charAt_3b067 dJ0_charAt_5068e_12 wm_2_201 wm_2_202 rfl rfl (Nat.le_of_ble_eq_true rfl) ⟨(Nat.le_of_ble_eq_true rfl), (Nat.le_of_ble_eq_true rfl)⟩ ⟨(Nat.le_of_ble_eq_true rfl), (Nat.le_of_ble_eq_true rfl)⟩ (fun w M2 => ?_)
    by_cases hw : w = (sbL.getD p0 []).getD p1.toNatClampNeg 0
    · rw [if_pos hw]
      exact r_nret hz hq dJ0_charAt_5068e_15 (by rw [hw]; exact e2) (Nat.le_of_ble_eq_true rfl) (Nat.le_of_ble_eq_true rfl)
    · rw [if_neg hw]
      exact r_none
  exact key _ M (by unfold ck; rw [if_pos hp]; simp [bd]) ⟨rfl, rfl⟩
