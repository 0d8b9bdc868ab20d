theorem dX8_init_0 : decode cX8_init 0 = .ok (.aload_n 0, 1) := by decide +kernel
theorem dX8_init_1 : decode cX8_init 1 = .ok (.invokespecial 1, 3) := by decide +kernel
theorem dX8_init_4 : decode cX8_init 4 = .ok (.aload_n 0, 1) := by decide +kernel
theorem dX8_init_5 : decode cX8_init 5 = .ok (.sipush 700, 3) := by decide +kernel
theorem dX8_init_8 : decode cX8_init 8 = .ok (.newarray .byte, 2) := by decide +kernel
theorem dX8_init_10 : decode cX8_init 10 = .ok (.putfield 7, 3) := by decide +kernel
theorem dX8_init_13 : decode cX8_init 13 = .ok (.aload_n 0, 1) := by decide +kernel
theorem dX8_init_14 : decode cX8_init 14 = .ok (.bipush 80, 2) := by decide +kernel
theorem dX8_init_16 : decode cX8_init 16 = .ok (.newarray .int, 2) := by decide +kernel
theorem dX8_init_18 : decode cX8_init 18 = .ok (.putfield 13, 3) := by decide +kernel
theorem dX8_init_21 : decode cX8_init 21 = .ok (.aload_n 0, 1) := by decide +kernel
theorem dX8_init_22 : decode cX8_init 22 = .ok (.bipush 80, 2) := by decide +kernel
theorem dX8_init_24 : decode cX8_init 24 = .ok (.newarray .int, 2) := by decide +kernel
theorem dX8_init_26 : decode cX8_init 26 = .ok (.putfield 17, 3) := by decide +kernel
theorem dX8_init_29 : decode cX8_init 29 = .ok (.aload_n 0, 1) := by decide +kernel
theorem dX8_init_30 : decode cX8_init 30 = .ok (.sipush 1407, 3) := by decide +kernel
theorem dX8_init_33 : decode cX8_init 33 = .ok (.newarray .int, 2) := by decide +kernel
theorem dX8_init_35 : decode cX8_init 35 = .ok (.putfield 20, 3) := by decide +kernel
theorem dX8_init_38 : decode cX8_init 38 = .ok (.aload_n 0, 1) := by decide +kernel
theorem dX8_init_39 : decode cX8_init 39 = .ok (.sipush 1407, 3) := by decide +kernel
theorem dX8_init_42 : decode cX8_init 42 = .ok (.newarray .int, 2) := by decide +kernel
theorem dX8_init_44 : decode cX8_init 44 = .ok (.putfield 23, 3) := by decide +kernel
theorem dX8_init_47 : decode cX8_init 47 = .ok (.aload_n 0, 1) := by decide +kernel
theorem dX8_init_48 : decode cX8_init 48 = .ok (.sipush 16884, 3) := by decide +kernel
theorem dX8_init_51 : decode cX8_init 51 = .ok (.newarray .int, 2) := by decide +kernel
theorem dX8_init_53 : decode cX8_init 53 = .ok (.putfield 26, 3) := by decide +kernel
theorem dX8_init_56 : decode cX8_init 56 = .ok (.aload_n 0, 1) := by decide +kernel
theorem dX8_init_57 : decode cX8_init 57 = .ok (.iconst 2, 1) := by decide +kernel
theorem dX8_init_58 : decode cX8_init 58 = .ok (.newarray .boolean, 2) := by decide +kernel
theorem dX8_init_60 : decode cX8_init 60 = .ok (.putfield 29, 3) := by decide +kernel
theorem dX8_init_63 : decode cX8_init 63 = .ok (.aload_n 0, 1) := by decide +kernel
theorem dX8_init_64 : decode cX8_init 64 = .ok (.sipush 2814, 3) := by decide +kernel
theorem dX8_init_67 : decode cX8_init 67 = .ok (.newarray .int, 2) := by decide +kernel
theorem dX8_init_69 : decode cX8_init 69 = .ok (.putfield 33, 3) := by decide +kernel
theorem dX8_init_72 : decode cX8_init 72 = .ok (.aload_n 0, 1) := by decide +kernel
theorem dX8_init_73 : decode cX8_init 73 = .ok (.bipush 126, 2) := by decide +kernel
theorem dX8_init_75 : decode cX8_init 75 = .ok (.newarray .int, 2) := by decide +kernel
theorem dX8_init_77 : decode cX8_init 77 = .ok (.putfield 36, 3) := by decide +kernel
theorem dX8_init_80 : decode cX8_init 80 = .ok (.aload_n 0, 1) := by decide +kernel
theorem dX8_init_81 : decode cX8_init 81 = .ok (.lconst 1, 1) := by decide +kernel
theorem dX8_init_82 : decode cX8_init 82 = .ok (.putfield 39, 3) := by decide +kernel
theorem dX8_init_85 : decode cX8_init 85 = .ok (.aload_n 0, 1) := by decide +kernel
theorem dX8_init_86 : decode cX8_init 86 = .ok (.bipush 61, 2) := by decide +kernel
theorem dX8_init_88 : decode cX8_init 88 = .ok (.newarray .boolean, 2) := by decide +kernel
theorem dX8_init_90 : decode cX8_init 90 = .ok (.putfield 43, 3) := by decide +kernel
theorem dX8_init_93 : decode cX8_init 93 = .ok (.return_, 1) := by decide +kernel
abbrev rX8_init : Room := { frames := 1, cells := 10, slots := 23561, locals := 20 }
theorem cal_X8_init : CalOk yX8_init cX8_init 1 none 0 := ⟨wm_5_54, wm_1_9, by decide, by decide, by decide +kernel⟩
def f_X8_init (p0 : Nat) (M : Mm) : Option (Unit × Mm) :=
  nm (gT M) fun q1 => nm (sN M 9 700) fun M2 =>
  ck (gK M2 p0 = 8) (nm (sR M2 p0 1 (some q1)) fun M3 =>
  nm (gT M3) fun q4 => nm (sN M3 10 80) fun M5 =>
  ck (gK M5 p0 = 8) (nm (sR M5 p0 11 (some q4)) fun M6 =>
  nm (gT M6) fun q7 => nm (sN M6 10 80) fun M8 =>
  ck (gK M8 p0 = 8) (nm (sR M8 p0 12 (some q7)) fun M9 =>
  nm (gT M9) fun q10 => nm (sN M9 10 1407) fun M11 =>
  ck (gK M11 p0 = 8) (nm (sR M11 p0 17 (some q10)) fun M12 =>
  nm (gT M12) fun q13 => nm (sN M12 10 1407) fun M14 =>
  ck (gK M14 p0 = 8) (nm (sR M14 p0 18 (some q13)) fun M15 =>
  nm (gT M15) fun q16 => nm (sN M15 10 16884) fun M17 =>
  ck (gK M17 p0 = 8) (nm (sR M17 p0 24 (some q16)) fun M18 =>
  nm (gT M18) fun q19 => nm (sN M18 11 2) fun M20 =>
  ck (gK M20 p0 = 8) (nm (sR M20 p0 25 (some q19)) fun M21 =>
  nm (gT M21) fun q22 => nm (sN M21 10 2814) fun M23 =>
  ck (gK M23 p0 = 8) (nm (sR M23 p0 26 (some q22)) fun M24 =>
  nm (gT M24) fun q25 => nm (sN M24 10 126) fun M26 =>
  ck (gK M26 p0 = 8) (nm (sR M26 p0 27 (some q25)) fun M27 =>
  ck (gK M27 p0 = 8) (nm (sL M27 p0 28 (1 : Int64)) fun M28 =>
  nm (gT M28) fun q29 => nm (sN M28 11 61) fun M30 =>
  ck (gK M30 p0 = 8) (nm (sR M30 p0 31 (some q29)) fun M31 =>
  some ((), M31))))))))))))
set_option maxRecDepth 20000 in
set_option maxHeartbeats 4000000 in
theorem t_X8_init (p0 : Nat) (M : Mm) (x : Unit) (M' : Mm) (h : f_X8_init p0 M = some (x, M')) : Ctr yX8_init cX8_init 1 none rX8_init (fun _ => [.ref p0]) M (zU x) M' := by
  refine ctr_of (plainFor_of_name (by decide)) (fun _ => Nat.le_of_ble_eq_true rfl) (fun z hz hin hq => ?_)
  have key : Sim z 0 [(0, .ref p0)] [] M 0 0 (f_X8_init p0 M) (fun a b => a = x ∧ b = M') := by
    have hq : Ret z zU (fun a b => a = x ∧ b = M') := fun a b e => by rw [e.1, e.2]; exact hq
    have hin := hin rfl
    unfold f_X8_init
    refine r_aload_n hz dX8_init_0 0 rfl ?_
    refine r_objInit hz dX8_init_1 wm_5_55 wm_1_27 wm_1_28 (Nat.le_of_ble_eq_true rfl) (Nat.le_of_ble_eq_true rfl) ?_
    refine r_aload_n hz dX8_init_4 0 rfl ?_
    refine r_sipush (v := 700) hz dX8_init_5 rfl ?_
    refine r_newB (len := 700) hz dX8_init_8 wm_3_119 rfl (by decide) (Nat.le_of_ble_eq_true rfl) (Nat.le_of_ble_eq_true rfl) (Nat.le_of_ble_eq_true rfl) ?_
    refine r_nma (fun q1 => ?_)
    refine r_nmM (fun M2 => ?_)
    refine r_putR (j := 1) cl8 hz dX8_init_10 (by decide) wm_5_57 (Or.inr ⟨rfl, hin⟩) rfl rfl rfl ?_
    refine r_nmM (fun M3 => ?_)
    refine r_aload_n hz dX8_init_13 0 rfl ?_
    refine r_bipush (v := 80) hz dX8_init_14 rfl ?_
    refine r_newI (len := 80) hz dX8_init_16 wm_1_133 rfl (by decide) (Nat.le_of_ble_eq_true rfl) (Nat.le_of_ble_eq_true rfl) (Nat.le_of_ble_eq_true rfl) ?_
    refine r_nma (fun q4 => ?_)
    refine r_nmM (fun M5 => ?_)
    refine r_putR (j := 11) cl8 hz dX8_init_18 (by decide) wm_5_67 (Or.inr ⟨rfl, hin⟩) rfl rfl rfl ?_
    refine r_nmM (fun M6 => ?_)
    refine r_aload_n hz dX8_init_21 0 rfl ?_
    refine r_bipush (v := 80) hz dX8_init_22 rfl ?_
    refine r_newI (len := 80) hz dX8_init_24 wm_1_133 rfl (by decide) (Nat.le_of_ble_eq_true rfl) (Nat.le_of_ble_eq_true rfl) (Nat.le_of_ble_eq_true rfl) ?_
    refine r_nma (fun q7 => ?_)
    refine r_nmM (fun M8 => ?_)
    refine r_putR (j := 12) cl8 hz dX8_init_26 (by decide) wm_5_68 (Or.inr ⟨rfl, hin⟩) rfl rfl rfl ?_
    refine r_nmM (fun M9 => ?_)
    refine r_aload_n hz dX8_init_29 0 rfl ?_
    refine r_sipush (v := 1407) hz dX8_init_30 rfl ?_
    refine r_newI (len := 1407) hz dX8_init_33 wm_1_133 rfl (by decide) (Nat.le_of_ble_eq_true rfl) (Nat.le_of_ble_eq_true rfl) (Nat.le_of_ble_eq_true rfl) ?_
    refine r_nma (fun q10 => ?_)
    refine r_nmM (fun M11 => ?_)
    refine r_putR (j := 17) cl8 hz dX8_init_35 (by decide) wm_5_73 (Or.inr ⟨rfl, hin⟩) rfl rfl rfl ?_
    refine r_nmM (fun M12 => ?_)
    refine r_aload_n hz dX8_init_38 0 rfl ?_
    refine r_sipush (v := 1407) hz dX8_init_39 rfl ?_
    refine r_newI (len := 1407) hz dX8_init_42 wm_1_133 rfl (by decide) (Nat.le_of_ble_eq_true rfl) (Nat.le_of_ble_eq_true rfl) (Nat.le_of_ble_eq_true rfl) ?_
    refine r_nma (fun q13 => ?_)
    refine r_nmM (fun M14 => ?_)
    refine r_putR (j := 18) cl8 hz dX8_init_44 (by decide) wm_5_74 (Or.inr ⟨rfl, hin⟩) rfl rfl rfl ?_
    refine r_nmM (fun M15 => ?_)
    refine r_aload_n hz dX8_init_47 0 rfl ?_
    refine r_sipush (v := 16884) hz dX8_init_48 rfl ?_
    refine r_newI (len := 16884) hz dX8_init_51 wm_1_133 rfl (by decide) (Nat.le_of_ble_eq_true rfl) (Nat.le_of_ble_eq_true rfl) (Nat.le_of_ble_eq_true rfl) ?_
    refine r_nma (fun q16 => ?_)
    refine r_nmM (fun M17 => ?_)
    refine r_putR (j := 24) cl8 hz dX8_init_53 (by decide) wm_5_80 (Or.inr ⟨rfl, hin⟩) rfl rfl rfl ?_
    refine r_nmM (fun M18 => ?_)
    refine r_aload_n hz dX8_init_56 0 rfl ?_
    refine r_iconst (v := 2) hz dX8_init_57 rfl ?_
    refine r_newZ (len := 2) hz dX8_init_58 wm_1_226 rfl (by decide) (Nat.le_of_ble_eq_true rfl) (Nat.le_of_ble_eq_true rfl) (Nat.le_of_ble_eq_true rfl) ?_
    refine r_nma (fun q19 => ?_)
    refine r_nmM (fun M20 => ?_)
    refine r_putR (j := 25) cl8 hz dX8_init_60 (by decide) wm_5_81 (Or.inr ⟨rfl, hin⟩) rfl rfl rfl ?_
    refine r_nmM (fun M21 => ?_)
    refine r_aload_n hz dX8_init_63 0 rfl ?_
    refine r_sipush (v := 2814) hz dX8_init_64 rfl ?_
    refine r_newI (len := 2814) hz dX8_init_67 wm_1_133 rfl (by decide) (Nat.le_of_ble_eq_true rfl) (Nat.le_of_ble_eq_true rfl) (Nat.le_of_ble_eq_true rfl) ?_
    refine r_nma (fun q22 => ?_)
    refine r_nmM (fun M23 => ?_)
    refine r_putR (j := 26) cl8 hz dX8_init_69 (by decide) wm_5_82 (Or.inr ⟨rfl, hin⟩) rfl rfl rfl ?_
    refine r_nmM (fun M24 => ?_)
    refine r_aload_n hz dX8_init_72 0 rfl ?_
    refine r_bipush (v := 126) hz dX8_init_73 rfl ?_
    refine r_newI (len := 126) hz dX8_init_75 wm_1_133 rfl (by decide) (Nat.le_of_ble_eq_true rfl) (Nat.le_of_ble_eq_true rfl) (Nat.le_of_ble_eq_true rfl) ?_
    refine r_nma (fun q25 => ?_)
    refine r_nmM (fun M26 => ?_)
    refine r_putR (j := 27) cl8 hz dX8_init_77 (by decide) wm_5_83 (Or.inr ⟨rfl, hin⟩) rfl rfl rfl ?_
    refine r_nmM (fun M27 => ?_)
    refine r_aload_n hz dX8_init_80 0 rfl ?_
    refine r_lconst (v := 1) hz dX8_init_81 rfl ?_
    refine r_putL (j := 28) cl8 hz dX8_init_82 (by decide) wm_5_84 (Or.inl rfl) rfl rfl rfl ?_
    refine r_nmM (fun M28 => ?_)
    refine r_aload_n hz dX8_init_85 0 rfl ?_
    refine r_bipush (v := 61) hz dX8_init_86 rfl ?_
    refine r_newZ (len := 61) hz dX8_init_88 wm_1_226 rfl (by decide) (Nat.le_of_ble_eq_true rfl) (Nat.le_of_ble_eq_true rfl) (Nat.le_of_ble_eq_true rfl) ?_
    refine r_nma (fun q29 => ?_)
    refine r_nmM (fun M30 => ?_)
    refine r_putR (j := 31) cl8 hz dX8_init_90 (by decide) wm_5_87 (Or.inr ⟨rfl, hin⟩) rfl rfl rfl ?_
    refine r_nmM (fun M31 => ?_)
    exact r_vret hz hq dX8_init_93 (Nat.le_of_ble_eq_true rfl) (Nat.le_of_ble_eq_true rfl)
  exact key x M' h ⟨rfl, rfl⟩
theorem dX8_thrown_0 : decode cX8_thrown 0 = .ok (.aload_n 0, 1) := by decide +kernel
theorem dX8_thrown_1 : decode cX8_thrown 1 = .ok (.getfield 46, 3) := by decide +kernel
theorem dX8_thrown_4 : decode cX8_thrown 4 = .ok (.ireturn, 1) := by decide +kernel
abbrev rX8_thrown : Room := { frames := 0, cells := 0, slots := 0, locals := 0 }
theorem cal_X8_thrown : CalOk yX8_thrown cX8_thrown 1 (some .int) 0 := ⟨wm_5_162, wm_1_9, by decide, by decide, by decide +kernel⟩
def f_X8_thrown (p0 : Nat) (M : Mm) : Option (Int32 × Mm) :=
  ck (gK M p0 = 8) (some ((gI M p0 0), M))
set_option maxRecDepth 20000 in
set_option maxHeartbeats 4000000 in
theorem t_X8_thrown (p0 : Nat) (M : Mm) (x : Int32) (M' : Mm) (h : f_X8_thrown p0 M = some (x, M')) : Ctr yX8_thrown cX8_thrown 1 (some .int) rX8_thrown (fun _ => [.ref p0]) M (zI x) M' := by
  refine ctr_of (plainFor_of_name (by decide)) (fun _ => Nat.le_of_ble_eq_true rfl) (fun z hz hin hq => ?_)
  have key : Sim z 0 [(0, .ref p0)] [] M 0 0 (f_X8_thrown p0 M) (fun a b => a = x ∧ b = M') := by
    have hq : Ret z zI (fun a b => a = x ∧ b = M') := fun a b e => by rw [e.1, e.2]; exact hq
    unfold f_X8_thrown
    refine r_aload_n hz dX8_thrown_0 0 rfl ?_
    refine r_getI (j := 0) cl8 hz dX8_thrown_1 (by decide) wm_5_56 rfl ?_
    exact r_iret hz hq dX8_thrown_4 (Nat.le_of_ble_eq_true rfl) (Nat.le_of_ble_eq_true rfl)
  exact key x M' h ⟨rfl, rfl⟩
theorem dX8_within_0 : decode cX8_within 0 = .ok (.lload_n 0, 1) := by decide +kernel
theorem dX8_within_1 : decode cX8_within 1 = .ok (.lload_n 2, 1) := by decide +kernel
theorem dX8_within_2 : decode cX8_within 2 = .ok (.lcmp, 1) := by decide +kernel
theorem dX8_within_3 : decode cX8_within 3 = .ok (.ifCond .lt 14, 3) := by decide +kernel
theorem dX8_within_6 : decode cX8_within 6 = .ok (.lload_n 0, 1) := by decide +kernel
theorem dX8_within_7 : decode cX8_within 7 = .ok (.lload 4, 2) := by decide +kernel
theorem dX8_within_9 : decode cX8_within 9 = .ok (.lcmp, 1) := by decide +kernel
theorem dX8_within_10 : decode cX8_within 10 = .ok (.ifCond .gt 7, 3) := by decide +kernel
theorem dX8_within_13 : decode cX8_within 13 = .ok (.iconst 1, 1) := by decide +kernel
theorem dX8_within_14 : decode cX8_within 14 = .ok (.goto 4, 3) := by decide +kernel
theorem dX8_within_17 : decode cX8_within 17 = .ok (.iconst 0, 1) := by decide +kernel
theorem dX8_within_18 : decode cX8_within 18 = .ok (.ireturn, 1) := by decide +kernel
abbrev rX8_within : Room := { frames := 0, cells := 0, slots := 0, locals := 0 }
theorem cal_X8_within : CalOk yX8_within cX8_within 6 (some .boolean) 3 := ⟨wm_5_177, wm_1_9, by decide, by decide, by decide +kernel⟩
def f_X8_within (p0 : Int64) (p2 : Int64) (p4 : Int64) (M : Mm) : Option (Int32 × Mm) :=
  (if p0 < p2 then
    some ((0 : Int32), M)
  else
    (if p4 < p0 then
      some ((0 : Int32), M)
    else
      some ((1 : Int32), M)))
set_option maxRecDepth 20000 in
set_option maxHeartbeats 4000000 in
theorem t_X8_within (p0 : Int64) (p2 : Int64) (p4 : Int64) (M : Mm) (x : Int32) (M' : Mm) (h : f_X8_within p0 p2 p4 M = some (x, M')) : Ctr yX8_within cX8_within 6 (some .boolean) rX8_within (fun _ => [.long p0, .long p2, .long p4]) M (zI x) M' := by
  refine ctr_of (plainFor_of_name (by decide)) (fun _ => Nat.le_of_ble_eq_true rfl) (fun z hz hin hq => ?_)
  have key : Sim z 0 [(0, .long p0), (2, .long p2), (4, .long p4)] [] M 0 0 (f_X8_within p0 p2 p4 M) (fun a b => a = x ∧ b = M') := by
    have hq : Ret z zI (fun a b => a = x ∧ b = M') := fun a b e => by rw [e.1, e.2]; exact hq
    unfold f_X8_within
    refine r_lload_n hz dX8_within_0 0 rfl ?_
    refine r_lload_n hz dX8_within_1 1 rfl ?_
    refine r_lcmp_lt (tgt := 17) hz dX8_within_2 dX8_within_3 rfl ?_ ?_
    · refine r_iconst (v := 0) hz dX8_within_17 rfl ?_
      exact r_zret hz hq dX8_within_18 (Or.inl rfl) (Nat.le_of_ble_eq_true rfl) (Nat.le_of_ble_eq_true rfl)
    · refine r_lload_n hz dX8_within_6 0 rfl ?_
      refine r_lload hz dX8_within_7 2 rfl ?_
      refine r_lcmp_gt (tgt := 17) hz dX8_within_9 dX8_within_10 rfl ?_ ?_
      · refine r_iconst (v := 0) hz dX8_within_17 rfl ?_
        exact r_zret hz hq dX8_within_18 (Or.inl rfl) (Nat.le_of_ble_eq_true rfl) (Nat.le_of_ble_eq_true rfl)
      · refine r_iconst (v := 1) hz dX8_within_13 rfl ?_
        refine r_goto (tgt := 18) hz dX8_within_14 rfl ?_
        exact r_zret hz hq dX8_within_18 (Or.inr rfl) (Nat.le_of_ble_eq_true rfl) (Nat.le_of_ble_eq_true rfl)
  exact key x M' h ⟨rfl, rfl⟩
theorem dX8_puts_0 : decode cX8_puts 0 = .ok (.bipush 24, 2) := by decide +kernel
theorem dX8_puts_2 : decode cX8_puts 2 = .ok (.istore_n 2, 1) := by decide +kernel
theorem dX8_puts_3 : decode cX8_puts 3 = .ok (.iload_n 2, 1) := by decide +kernel
theorem dX8_puts_4 : decode cX8_puts 4 = .ok (.ifCond .lt 32, 3) := by decide +kernel
theorem dX8_puts_7 : decode cX8_puts 7 = .ok (.aload_n 0, 1) := by decide +kernel
theorem dX8_puts_8 : decode cX8_puts 8 = .ok (.getfield 7, 3) := by decide +kernel
theorem dX8_puts_11 : decode cX8_puts 11 = .ok (.aload_n 0, 1) := by decide +kernel
theorem dX8_puts_12 : decode cX8_puts 12 = .ok (.getfield 50, 3) := by decide +kernel
theorem dX8_puts_15 : decode cX8_puts 15 = .ok (.iload_n 1, 1) := by decide +kernel
theorem dX8_puts_16 : decode cX8_puts 16 = .ok (.iload_n 2, 1) := by decide +kernel
theorem dX8_puts_17 : decode cX8_puts 17 = .ok (.ishr, 1) := by decide +kernel
theorem dX8_puts_18 : decode cX8_puts 18 = .ok (.i2b, 1) := by decide +kernel
theorem dX8_puts_19 : decode cX8_puts 19 = .ok (.bastore, 1) := by decide +kernel
theorem dX8_puts_20 : decode cX8_puts 20 = .ok (.aload_n 0, 1) := by decide +kernel
theorem dX8_puts_21 : decode cX8_puts 21 = .ok (.dup, 1) := by decide +kernel
theorem dX8_puts_22 : decode cX8_puts 22 = .ok (.getfield 50, 3) := by decide +kernel
theorem dX8_puts_25 : decode cX8_puts 25 = .ok (.iconst 1, 1) := by decide +kernel
theorem dX8_puts_26 : decode cX8_puts 26 = .ok (.iadd, 1) := by decide +kernel
theorem dX8_puts_27 : decode cX8_puts 27 = .ok (.putfield 50, 3) := by decide +kernel
theorem dX8_puts_30 : decode cX8_puts 30 = .ok (.iinc 2 (-8), 3) := by decide +kernel
theorem dX8_puts_33 : decode cX8_puts 33 = .ok (.goto (-30), 3) := by decide +kernel
theorem dX8_puts_36 : decode cX8_puts 36 = .ok (.return_, 1) := by decide +kernel
abbrev rX8_puts : Room := { frames := 0, cells := 0, slots := 0, locals := 0 }
theorem cal_X8_puts : CalOk yX8_puts cX8_puts 3 none 1 := ⟨wm_5_170, wm_1_9, by decide, by decide, by decide +kernel⟩
def f_X8_puts_3 : Nat → Nat → Int32 → Int32 → Mm → Option (Unit × Mm)
  | 0, _, _, _, _ => none
  | n + 1, x0, x1, x2, M =>
    (if x2 < 0 then
      some ((), M)
    else
      ck (gK M x0 = 8) (bR (gR M x0 1) fun q1 => ck (gK M x0 = 8) (ck (gK M q1 = 9 ∧ inb (gI M x0 2) (gN M q1)) (nm (sI M q1 ((gI M x0 2)).toNatClampNeg (vp_nar .byte ((x1 >>> (x2 &&& 31))).toInt8.toInt32)) fun M2 =>
      ck (gK M2 x0 = 8) (ck (gK M2 x0 = 8) (nm (sI M2 x0 2 ((gI M2 x0 2) + (1 : Int32))) fun M3 =>
      f_X8_puts_3 n x0 x1 (x2 + (-8 : Int32)) M3))))))
set_option maxRecDepth 20000 in
set_option maxHeartbeats 4000000 in
theorem s_X8_puts_3 {z : Zt} {K : Unit → Mm → Prop} (hz : Good z RX8 cX8_puts 3 rX8_puts none) (hq : Ret z zU K) : ∀ (n : Nat) (x0 : Nat) (x1 : Int32) (x2 : Int32) (M : Mm), Sim z 3 [(0, .ref x0), (1, .int x1), (2, .int x2)] [] M 0 0 (f_X8_puts_3 n x0 x1 x2 M) K := by
  intro n
  induction n with
  | zero => exact fun _ _ _ _ => r_none
  | succ n ih =>
    intro x0 x1 x2 M
    unfold f_X8_puts_3
    refine r_iload_n hz dX8_puts_3 2 rfl ?_
    refine r_if_lt (tgt := 36) hz dX8_puts_4 rfl ?_ ?_
    · exact r_vret hz hq dX8_puts_36 (Nat.le_of_ble_eq_true rfl) (Nat.le_of_ble_eq_true rfl)
    · refine r_aload_n hz dX8_puts_7 0 rfl ?_
      refine r_getR (j := 1) cl8 hz dX8_puts_8 (by decide) wm_5_57 rfl (fun q1 => ?_)
      refine r_aload_n hz dX8_puts_11 0 rfl ?_
      refine r_getI (j := 2) cl8 hz dX8_puts_12 (by decide) wm_5_58 rfl ?_
      refine r_iload_n hz dX8_puts_15 1 rfl ?_
      refine r_iload_n hz dX8_puts_16 2 rfl ?_
      refine r_ishr hz dX8_puts_17 ?_
      refine r_i2b hz dX8_puts_18 ?_
      refine r_bast hz dX8_puts_19 ?_
      refine r_nmM (fun M2 => ?_)
      refine r_aload_n hz dX8_puts_20 0 rfl ?_
      refine r_dup hz dX8_puts_21 rfl ?_
      refine r_getI (j := 2) cl8 hz dX8_puts_22 (by decide) wm_5_58 rfl ?_
      refine r_iconst (v := 1) hz dX8_puts_25 rfl ?_
      refine r_iadd hz dX8_puts_26 ?_
      refine r_putI (j := 2) cl8 hz dX8_puts_27 (by decide) wm_5_58 (Or.inl rfl) rfl rfl rfl ?_
      refine r_nmM (fun M3 => ?_)
      refine r_iinc (v := (x2 + (-8 : Int32))) (lv' := [(2, .int (x2 + (-8 : Int32))), (0, .ref x0), (1, .int x1)]) hz dX8_puts_30 2 rfl rfl (by decide) rfl ?_
      refine r_goto (tgt := 3) hz dX8_puts_33 rfl ?_
      refine r_sub [1, 2, 0] rfl ?_
      exact ih x0 x1 (x2 + (-8 : Int32)) M3
def f_X8_puts (p0 : Nat) (p1 : Int32) (M : Mm) : Option (Unit × Mm) :=
  f_X8_puts_3 FU p0 p1 (24 : Int32) M
set_option maxRecDepth 20000 in
set_option maxHeartbeats 4000000 in
theorem t_X8_puts (p0 : Nat) (p1 : Int32) (M : Mm) (x : Unit) (M' : Mm) (h : f_X8_puts p0 p1 M = some (x, M')) : Ctr yX8_puts cX8_puts 3 none rX8_puts (fun _ => [.ref p0, .int p1]) M (zU x) M' := by
  refine ctr_of (plainFor_of_name (by decide)) (fun _ => Nat.le_of_ble_eq_true rfl) (fun z hz hin hq => ?_)
  have key : Sim z 0 [(0, .ref p0), (1, .int p1)] [] M 0 0 (f_X8_puts p0 p1 M) (fun a b => a = x ∧ b = M') := by
    have hq : Ret z zU (fun a b => a = x ∧ b = M') := fun a b e => by rw [e.1, e.2]; exact hq
    unfold f_X8_puts
    refine r_bipush (v := 24) hz dX8_puts_0 rfl ?_
    refine r_istore_n (lv' := [(2, .int (24 : Int32)), (0, .ref p0), (1, .int p1)]) hz dX8_puts_2 (by decide) rfl ?_
    refine r_sub [1, 2, 0] rfl ?_
    exact s_X8_puts_3 hz hq FU p0 p1 (24 : Int32) M
  exact key x M' h ⟨rfl, rfl⟩
theorem dX8_feed_0 : decode cX8_feed 0 = .ok (.aload_n 0, 1) := by decide +kernel
theorem dX8_feed_1 : decode cX8_feed 1 = .ok (.iconst 0, 1) := by decide +kernel
theorem dX8_feed_2 : decode cX8_feed 2 = .ok (.putfield 46, 3) := by decide +kernel
theorem dX8_feed_5 : decode cX8_feed 5 = .ok (.aload_n 0, 1) := by decide +kernel
theorem dX8_feed_6 : decode cX8_feed 6 = .ok (.getfield 50, 3) := by decide +kernel
theorem dX8_feed_9 : decode cX8_feed 9 = .ok (.bipush 20, 2) := by decide +kernel
theorem dX8_feed_11 : decode cX8_feed 11 = .ok (.iadd, 1) := by decide +kernel
theorem dX8_feed_12 : decode cX8_feed 12 = .ok (.sipush 700, 3) := by decide +kernel
theorem dX8_feed_15 : decode cX8_feed 15 = .ok (.if_icmp .le 5, 3) := by decide +kernel
theorem dX8_feed_18 : decode cX8_feed 18 = .ok (.iconst (-1), 1) := by decide +kernel
theorem dX8_feed_19 : decode cX8_feed 19 = .ok (.ireturn, 1) := by decide +kernel
theorem dX8_feed_20 : decode cX8_feed 20 = .ok (.aload_n 0, 1) := by decide +kernel
theorem dX8_feed_21 : decode cX8_feed 21 = .ok (.iload_n 1, 1) := by decide +kernel
theorem dX8_feed_22 : decode cX8_feed 22 = .ok (.invokevirtual 53, 3) := by decide +kernel
theorem dX8_feed_25 : decode cX8_feed 25 = .ok (.aload_n 0, 1) := by decide +kernel
theorem dX8_feed_26 : decode cX8_feed 26 = .ok (.iload_n 2, 1) := by decide +kernel
theorem dX8_feed_27 : decode cX8_feed 27 = .ok (.invokevirtual 53, 3) := by decide +kernel
theorem dX8_feed_30 : decode cX8_feed 30 = .ok (.aload_n 0, 1) := by decide +kernel
theorem dX8_feed_31 : decode cX8_feed 31 = .ok (.iload_n 3, 1) := by decide +kernel
theorem dX8_feed_32 : decode cX8_feed 32 = .ok (.invokevirtual 53, 3) := by decide +kernel
theorem dX8_feed_35 : decode cX8_feed 35 = .ok (.aload_n 0, 1) := by decide +kernel
theorem dX8_feed_36 : decode cX8_feed 36 = .ok (.iload 4, 2) := by decide +kernel
theorem dX8_feed_38 : decode cX8_feed 38 = .ok (.invokevirtual 53, 3) := by decide +kernel
theorem dX8_feed_41 : decode cX8_feed 41 = .ok (.aload_n 0, 1) := by decide +kernel
theorem dX8_feed_42 : decode cX8_feed 42 = .ok (.iload 5, 2) := by decide +kernel
theorem dX8_feed_44 : decode cX8_feed 44 = .ok (.invokevirtual 53, 3) := by decide +kernel
theorem dX8_feed_47 : decode cX8_feed 47 = .ok (.aload_n 0, 1) := by decide +kernel
theorem dX8_feed_48 : decode cX8_feed 48 = .ok (.getfield 50, 3) := by decide +kernel
theorem dX8_feed_51 : decode cX8_feed 51 = .ok (.ireturn, 1) := by decide +kernel
abbrev rX8_feed : Room := { frames := 1, cells := 0, slots := 0, locals := 22 }
theorem cal_X8_feed : CalOk yX8_feed cX8_feed 6 (some .int) 5 := ⟨wm_5_166, wm_1_9, by decide, by decide, by decide +kernel⟩
def f_X8_feed (p0 : Nat) (p1 : Int32) (p2 : Int32) (p3 : Int32) (p4 : Int32) (p5 : Int32) (M : Mm) : Option (Int32 × Mm) :=
  ck (gK M p0 = 8) (nm (sI M p0 0 (0 : Int32)) fun M1 =>
  ck (gK M1 p0 = 8) ((if ((gI M1 p0 2) + (20 : Int32)) ≤ (700 : Int32) then
    ck (gK M1 p0 = 8) (bd (f_X8_puts p0 p1 M1) fun _ M2 =>
    ck (gK M2 p0 = 8) (bd (f_X8_puts p0 p2 M2) fun _ M3 =>
    ck (gK M3 p0 = 8) (bd (f_X8_puts p0 p3 M3) fun _ M4 =>
    ck (gK M4 p0 = 8) (bd (f_X8_puts p0 p4 M4) fun _ M5 =>
    ck (gK M5 p0 = 8) (bd (f_X8_puts p0 p5 M5) fun _ M6 =>
    ck (gK M6 p0 = 8) (some ((gI M6 p0 2), M6)))))))
  else
    some ((-1 : Int32), M1))))
set_option maxRecDepth 20000 in
set_option maxHeartbeats 4000000 in
theorem t_X8_feed (p0 : Nat) (p1 : Int32) (p2 : Int32) (p3 : Int32) (p4 : Int32) (p5 : Int32) (M : Mm) (x : Int32) (M' : Mm) (h : f_X8_feed p0 p1 p2 p3 p4 p5 M = some (x, M')) : Ctr yX8_feed cX8_feed 6 (some .int) rX8_feed (fun _ => [.ref p0, .int p1, .int p2, .int p3, .int p4, .int p5]) M (zI x) M' := by
  refine ctr_of (plainFor_of_name (by decide)) (fun _ => Nat.le_of_ble_eq_true rfl) (fun z hz hin hq => ?_)
  have key : Sim z 0 [(0, .ref p0), (1, .int p1), (2, .int p2), (3, .int p3), (4, .int p4), (5, .int p5)] [] M 0 0 (f_X8_feed p0 p1 p2 p3 p4 p5 M) (fun a b => a = x ∧ b = M') := by
    have hq : Ret z zI (fun a b => a = x ∧ b = M') := fun a b e => by rw [e.1, e.2]; exact hq
    unfold f_X8_feed
    refine r_aload_n hz dX8_feed_0 0 rfl ?_
    refine r_iconst (v := 0) hz dX8_feed_1 rfl ?_
    refine r_putI (j := 0) cl8 hz dX8_feed_2 (by decide) wm_5_56 (Or.inl rfl) rfl rfl rfl ?_
    refine r_nmM (fun M1 => ?_)
    refine r_aload_n hz dX8_feed_5 0 rfl ?_
    refine r_getI (j := 2) cl8 hz dX8_feed_6 (by decide) wm_5_58 rfl ?_
    refine r_bipush (v := 20) hz dX8_feed_9 rfl ?_
    refine r_iadd hz dX8_feed_11 ?_
    refine r_sipush (v := 700) hz dX8_feed_12 rfl ?_
    refine r_icmp_le (tgt := 20) hz dX8_feed_15 rfl ?_ ?_
    · refine r_aload_n hz dX8_feed_20 0 rfl ?_
      refine r_iload_n hz dX8_feed_21 1 rfl ?_
      refine r_callVv (As := fun _ => [.int p1]) cl8 hz (fun _ _ h => t_X8_puts _ _ _ _ _ h) cal_X8_puts dX8_feed_22 wm_5_167 wm_5_169 wm_p_43 rfl rfl (Nat.le_of_ble_eq_true rfl) ⟨(Nat.le_of_ble_eq_true rfl), (Nat.le_of_ble_eq_true rfl)⟩ ⟨(Nat.le_of_ble_eq_true rfl), (Nat.le_of_ble_eq_true rfl)⟩ (fun _ M2 => ?_)
      refine r_aload_n hz dX8_feed_25 0 rfl ?_
      refine r_iload_n hz dX8_feed_26 2 rfl ?_
      refine r_callVv (As := fun _ => [.int p2]) cl8 hz (fun _ _ h => t_X8_puts _ _ _ _ _ h) cal_X8_puts dX8_feed_27 wm_5_167 wm_5_169 wm_p_43 rfl rfl (Nat.le_of_ble_eq_true rfl) ⟨(Nat.le_of_ble_eq_true rfl), (Nat.le_of_ble_eq_true rfl)⟩ ⟨(Nat.le_of_ble_eq_true rfl), (Nat.le_of_ble_eq_true rfl)⟩ (fun _ M3 => ?_)
      refine r_aload_n hz dX8_feed_30 0 rfl ?_
      refine r_iload_n hz dX8_feed_31 3 rfl ?_
      refine r_callVv (As := fun _ => [.int p3]) cl8 hz (fun _ _ h => t_X8_puts _ _ _ _ _ h) cal_X8_puts dX8_feed_32 wm_5_167 wm_5_169 wm_p_43 rfl rfl (Nat.le_of_ble_eq_true rfl) ⟨(Nat.le_of_ble_eq_true rfl), (Nat.le_of_ble_eq_true rfl)⟩ ⟨(Nat.le_of_ble_eq_true rfl), (Nat.le_of_ble_eq_true rfl)⟩ (fun _ M4 => ?_)
      refine r_aload_n hz dX8_feed_35 0 rfl ?_
      refine r_iload hz dX8_feed_36 4 rfl ?_
      refine r_callVv (As := fun _ => [.int p4]) cl8 hz (fun _ _ h => t_X8_puts _ _ _ _ _ h) cal_X8_puts dX8_feed_38 wm_5_167 wm_5_169 wm_p_43 rfl rfl (Nat.le_of_ble_eq_true rfl) ⟨(Nat.le_of_ble_eq_true rfl), (Nat.le_of_ble_eq_true rfl)⟩ ⟨(Nat.le_of_ble_eq_true rfl), (Nat.le_of_ble_eq_true rfl)⟩ (fun _ M5 => ?_)
      refine r_aload_n hz dX8_feed_41 0 rfl ?_
      refine r_iload hz dX8_feed_42 5 rfl ?_
      refine r_callVv (As := fun _ => [.int p5]) cl8 hz (fun _ _ h => t_X8_puts _ _ _ _ _ h) cal_X8_puts dX8_feed_44 wm_5_167 wm_5_169 wm_p_43 rfl rfl (Nat.le_of_ble_eq_true rfl) ⟨(Nat.le_of_ble_eq_true rfl), (Nat.le_of_ble_eq_true rfl)⟩ ⟨(Nat.le_of_ble_eq_true rfl), (Nat.le_of_ble_eq_true rfl)⟩ (fun _ M6 => ?_)
      refine r_aload_n hz dX8_feed_47 0 rfl ?_
      refine r_getI (j := 2) cl8 hz dX8_feed_48 (by decide) wm_5_58 rfl ?_
      exact r_iret hz hq dX8_feed_51 (Nat.le_of_ble_eq_true rfl) (Nat.le_of_ble_eq_true rfl)
    · refine r_iconst (v := -1) hz dX8_feed_18 rfl ?_
      exact r_iret hz hq dX8_feed_19 (Nat.le_of_ble_eq_true rfl) (Nat.le_of_ble_eq_true rfl)
  exact key x M' h ⟨rfl, rfl⟩
theorem dX8_byteAt_0 : decode cX8_byteAt 0 = .ok (.iload_n 1, 1) := by decide +kernel
theorem dX8_byteAt_1 : decode cX8_byteAt 1 = .ok (.aload_n 0, 1) := by decide +kernel
theorem dX8_byteAt_2 : decode cX8_byteAt 2 = .ok (.getfield 57, 3) := by decide +kernel
theorem dX8_byteAt_5 : decode cX8_byteAt 5 = .ok (.if_icmp .ge 16, 3) := by decide +kernel
theorem dX8_byteAt_8 : decode cX8_byteAt 8 = .ok (.aload_n 0, 1) := by decide +kernel
theorem dX8_byteAt_9 : decode cX8_byteAt 9 = .ok (.getfield 7, 3) := by decide +kernel
theorem dX8_byteAt_12 : decode cX8_byteAt 12 = .ok (.iload_n 1, 1) := by decide +kernel
theorem dX8_byteAt_13 : decode cX8_byteAt 13 = .ok (.baload, 1) := by decide +kernel
theorem dX8_byteAt_14 : decode cX8_byteAt 14 = .ok (.sipush 255, 3) := by decide +kernel
theorem dX8_byteAt_17 : decode cX8_byteAt 17 = .ok (.iand, 1) := by decide +kernel
theorem dX8_byteAt_18 : decode cX8_byteAt 18 = .ok (.goto 4, 3) := by decide +kernel
theorem dX8_byteAt_21 : decode cX8_byteAt 21 = .ok (.iconst (-1), 1) := by decide +kernel
theorem dX8_byteAt_22 : decode cX8_byteAt 22 = .ok (.ireturn, 1) := by decide +kernel
abbrev rX8_byteAt : Room := { frames := 0, cells := 0, slots := 0, locals := 0 }
theorem cal_X8_byteAt : CalOk yX8_byteAt cX8_byteAt 2 (some .int) 1 := ⟨wm_5_185, wm_1_9, by decide, by decide, by decide +kernel⟩
def f_X8_byteAt (p0 : Nat) (p1 : Int32) (M : Mm) : Option (Int32 × Mm) :=
  ck (gK M p0 = 8) ((if (gI M p0 3) ≤ p1 then
    some ((-1 : Int32), M)
  else
    ck (gK M p0 = 8) (bR (gR M p0 1) fun q1 => ck (gK M q1 = 9 ∧ inb p1 (gN M q1)) (some (((gI M q1 (p1).toNatClampNeg) &&& (255 : Int32)), M)))))
set_option maxRecDepth 20000 in
set_option maxHeartbeats 4000000 in
theorem t_X8_byteAt (p0 : Nat) (p1 : Int32) (M : Mm) (x : Int32) (M' : Mm) (h : f_X8_byteAt p0 p1 M = some (x, M')) : Ctr yX8_byteAt cX8_byteAt 2 (some .int) rX8_byteAt (fun _ => [.ref p0, .int p1]) M (zI x) M' := by
  refine ctr_of (plainFor_of_name (by decide)) (fun _ => Nat.le_of_ble_eq_true rfl) (fun z hz hin hq => ?_)
  have key : Sim z 0 [(0, .ref p0), (1, .int p1)] [] M 0 0 (f_X8_byteAt p0 p1 M) (fun a b => a = x ∧ b = M') := by
    have hq : Ret z zI (fun a b => a = x ∧ b = M') := fun a b e => by rw [e.1, e.2]; exact hq
    unfold f_X8_byteAt
    refine r_iload_n hz dX8_byteAt_0 1 rfl ?_
    refine r_aload_n hz dX8_byteAt_1 0 rfl ?_
    refine r_getI (j := 3) cl8 hz dX8_byteAt_2 (by decide) wm_5_59 rfl ?_
    refine r_icmp_ge (tgt := 21) hz dX8_byteAt_5 rfl ?_ ?_
    · refine r_iconst (v := -1) hz dX8_byteAt_21 rfl ?_
      exact r_iret hz hq dX8_byteAt_22 (Nat.le_of_ble_eq_true rfl) (Nat.le_of_ble_eq_true rfl)
    · refine r_aload_n hz dX8_byteAt_8 0 rfl ?_
      refine r_getR (j := 1) cl8 hz dX8_byteAt_9 (by decide) wm_5_57 rfl (fun q1 => ?_)
      refine r_iload_n hz dX8_byteAt_12 1 rfl ?_
      refine r_bald hz dX8_byteAt_13 ?_
      refine r_sipush (v := 255) hz dX8_byteAt_14 rfl ?_
      refine r_iand hz dX8_byteAt_17 ?_
      refine r_goto (tgt := 22) hz dX8_byteAt_18 rfl ?_
      exact r_iret hz hq dX8_byteAt_22 (Nat.le_of_ble_eq_true rfl) (Nat.le_of_ble_eq_true rfl)
  exact key x M' h ⟨rfl, rfl⟩
theorem dX8_go_0 : decode cX8_go 0 = .ok (.aload_n 0, 1) := by decide +kernel
theorem dX8_go_1 : decode cX8_go 1 = .ok (.aload_n 0, 1) := by decide +kernel
theorem dX8_go_2 : decode cX8_go 2 = .ok (.getfield 60, 3) := by decide +kernel
theorem dX8_go_5 : decode cX8_go 5 = .ok (.invokevirtual 63, 3) := by decide +kernel
theorem dX8_go_8 : decode cX8_go 8 = .ok (.bipush 32, 2) := by decide +kernel
theorem dX8_go_10 : decode cX8_go 10 = .ok (.if_icmp .eq 16, 3) := by decide +kernel
theorem dX8_go_13 : decode cX8_go 13 = .ok (.aload_n 0, 1) := by decide +kernel
theorem dX8_go_14 : decode cX8_go 14 = .ok (.aload_n 0, 1) := by decide +kernel
theorem dX8_go_15 : decode cX8_go 15 = .ok (.getfield 60, 3) := by decide +kernel
theorem dX8_go_18 : decode cX8_go 18 = .ok (.invokevirtual 63, 3) := by decide +kernel
theorem dX8_go_21 : decode cX8_go 21 = .ok (.bipush 10, 2) := by decide +kernel
theorem dX8_go_23 : decode cX8_go 23 = .ok (.if_icmp .ne 16, 3) := by decide +kernel
theorem dX8_go_26 : decode cX8_go 26 = .ok (.aload_n 0, 1) := by decide +kernel
theorem dX8_go_27 : decode cX8_go 27 = .ok (.dup, 1) := by decide +kernel
theorem dX8_go_28 : decode cX8_go 28 = .ok (.getfield 60, 3) := by decide +kernel
theorem dX8_go_31 : decode cX8_go 31 = .ok (.iconst 1, 1) := by decide +kernel
theorem dX8_go_32 : decode cX8_go 32 = .ok (.iadd, 1) := by decide +kernel
theorem dX8_go_33 : decode cX8_go 33 = .ok (.putfield 60, 3) := by decide +kernel
theorem dX8_go_36 : decode cX8_go 36 = .ok (.goto (-36), 3) := by decide +kernel
theorem dX8_go_39 : decode cX8_go 39 = .ok (.aload_n 0, 1) := by decide +kernel
theorem dX8_go_40 : decode cX8_go 40 = .ok (.aload_n 0, 1) := by decide +kernel
theorem dX8_go_41 : decode cX8_go 41 = .ok (.getfield 60, 3) := by decide +kernel
theorem dX8_go_44 : decode cX8_go 44 = .ok (.putfield 67, 3) := by decide +kernel
theorem dX8_go_47 : decode cX8_go 47 = .ok (.aload_n 0, 1) := by decide +kernel
theorem dX8_go_48 : decode cX8_go 48 = .ok (.iconst 0, 1) := by decide +kernel
theorem dX8_go_49 : decode cX8_go 49 = .ok (.putfield 70, 3) := by decide +kernel
theorem dX8_go_52 : decode cX8_go 52 = .ok (.aload_n 0, 1) := by decide +kernel
theorem dX8_go_53 : decode cX8_go 53 = .ok (.iconst 0, 1) := by decide +kernel
theorem dX8_go_54 : decode cX8_go 54 = .ok (.putfield 73, 3) := by decide +kernel
theorem dX8_go_57 : decode cX8_go 57 = .ok (.aload_n 0, 1) := by decide +kernel
theorem dX8_go_58 : decode cX8_go 58 = .ok (.aload_n 0, 1) := by decide +kernel
theorem dX8_go_59 : decode cX8_go 59 = .ok (.getfield 60, 3) := by decide +kernel
theorem dX8_go_62 : decode cX8_go 62 = .ok (.invokevirtual 63, 3) := by decide +kernel
theorem dX8_go_65 : decode cX8_go 65 = .ok (.istore_n 1, 1) := by decide +kernel
theorem dX8_go_66 : decode cX8_go 66 = .ok (.iload_n 1, 1) := by decide +kernel
theorem dX8_go_67 : decode cX8_go 67 = .ok (.ifCond .ge 11, 3) := by decide +kernel
theorem dX8_go_70 : decode cX8_go 70 = .ok (.aload_n 0, 1) := by decide +kernel
theorem dX8_go_71 : decode cX8_go 71 = .ok (.iconst 0, 1) := by decide +kernel
theorem dX8_go_72 : decode cX8_go 72 = .ok (.putfield 76, 3) := by decide +kernel
theorem dX8_go_75 : decode cX8_go 75 = .ok (.goto 221, 3) := by decide +kernel
theorem dX8_go_78 : decode cX8_go 78 = .ok (.iload_n 1, 1) := by decide +kernel
theorem dX8_go_79 : decode cX8_go 79 = .ok (.i2l, 1) := by decide +kernel
theorem dX8_go_80 : decode cX8_go 80 = .ok (.ldc2_w 79, 3) := by decide +kernel
theorem dX8_go_83 : decode cX8_go 83 = .ok (.ldc2_w 81, 3) := by decide +kernel
theorem dX8_go_86 : decode cX8_go 86 = .ok (.invokestatic 83, 3) := by decide +kernel
theorem dX8_go_89 : decode cX8_go 89 = .ok (.ifCond .eq 86, 3) := by decide +kernel
theorem dX8_go_92 : decode cX8_go 92 = .ok (.aload_n 0, 1) := by decide +kernel
theorem dX8_go_93 : decode cX8_go 93 = .ok (.aload_n 0, 1) := by decide +kernel
theorem dX8_go_94 : decode cX8_go 94 = .ok (.getfield 60, 3) := by decide +kernel
theorem dX8_go_97 : decode cX8_go 97 = .ok (.invokevirtual 63, 3) := by decide +kernel
theorem dX8_go_100 : decode cX8_go 100 = .ok (.i2l, 1) := by decide +kernel
theorem dX8_go_101 : decode cX8_go 101 = .ok (.ldc2_w 79, 3) := by decide +kernel
theorem dX8_go_104 : decode cX8_go 104 = .ok (.ldc2_w 81, 3) := by decide +kernel
theorem dX8_go_107 : decode cX8_go 107 = .ok (.invokestatic 83, 3) := by decide +kernel
theorem dX8_go_110 : decode cX8_go 110 = .ok (.ifCond .eq 57, 3) := by decide +kernel
theorem dX8_go_113 : decode cX8_go 113 = .ok (.aload_n 0, 1) := by decide +kernel
theorem dX8_go_114 : decode cX8_go 114 = .ok (.aload_n 0, 1) := by decide +kernel
theorem dX8_go_115 : decode cX8_go 115 = .ok (.getfield 60, 3) := by decide +kernel
theorem dX8_go_118 : decode cX8_go 118 = .ok (.aload_n 0, 1) := by decide +kernel
theorem dX8_go_119 : decode cX8_go 119 = .ok (.getfield 67, 3) := by decide +kernel
theorem dX8_go_122 : decode cX8_go 122 = .ok (.isub, 1) := by decide +kernel
theorem dX8_go_123 : decode cX8_go 123 = .ok (.bipush 6, 2) := by decide +kernel
theorem dX8_go_125 : decode cX8_go 125 = .ok (.if_icmp .ge 25, 3) := by decide +kernel
theorem dX8_go_128 : decode cX8_go 128 = .ok (.bipush 32, 2) := by decide +kernel
theorem dX8_go_130 : decode cX8_go 130 = .ok (.aload_n 0, 1) := by decide +kernel
theorem dX8_go_131 : decode cX8_go 131 = .ok (.getfield 73, 3) := by decide +kernel
theorem dX8_go_134 : decode cX8_go 134 = .ok (.imul, 1) := by decide +kernel
theorem dX8_go_135 : decode cX8_go 135 = .ok (.aload_n 0, 1) := by decide +kernel
theorem dX8_go_136 : decode cX8_go 136 = .ok (.aload_n 0, 1) := by decide +kernel
theorem dX8_go_137 : decode cX8_go 137 = .ok (.getfield 60, 3) := by decide +kernel
theorem dX8_go_140 : decode cX8_go 140 = .ok (.invokevirtual 63, 3) := by decide +kernel
theorem dX8_go_143 : decode cX8_go 143 = .ok (.iadd, 1) := by decide +kernel
theorem dX8_go_144 : decode cX8_go 144 = .ok (.bipush 96, 2) := by decide +kernel
theorem dX8_go_146 : decode cX8_go 146 = .ok (.isub, 1) := by decide +kernel
theorem dX8_go_147 : decode cX8_go 147 = .ok (.goto 4, 3) := by decide +kernel
theorem dX8_go_150 : decode cX8_go 150 = .ok (.iconst (-1), 1) := by decide +kernel
theorem dX8_go_151 : decode cX8_go 151 = .ok (.putfield 73, 3) := by decide +kernel
theorem dX8_go_154 : decode cX8_go 154 = .ok (.aload_n 0, 1) := by decide +kernel
theorem dX8_go_155 : decode cX8_go 155 = .ok (.dup, 1) := by decide +kernel
theorem dX8_go_156 : decode cX8_go 156 = .ok (.getfield 60, 3) := by decide +kernel
theorem dX8_go_159 : decode cX8_go 159 = .ok (.iconst 1, 1) := by decide +kernel
theorem dX8_go_160 : decode cX8_go 160 = .ok (.iadd, 1) := by decide +kernel
theorem dX8_go_161 : decode cX8_go 161 = .ok (.putfield 60, 3) := by decide +kernel
theorem dX8_go_164 : decode cX8_go 164 = .ok (.goto (-72), 3) := by decide +kernel
theorem dX8_go_167 : decode cX8_go 167 = .ok (.aload_n 0, 1) := by decide +kernel
theorem dX8_go_168 : decode cX8_go 168 = .ok (.iconst 1, 1) := by decide +kernel
theorem dX8_go_169 : decode cX8_go 169 = .ok (.putfield 76, 3) := by decide +kernel
theorem dX8_go_172 : decode cX8_go 172 = .ok (.goto 124, 3) := by decide +kernel
theorem dX8_go_175 : decode cX8_go 175 = .ok (.iload_n 1, 1) := by decide +kernel
theorem dX8_go_176 : decode cX8_go 176 = .ok (.i2l, 1) := by decide +kernel
theorem dX8_go_177 : decode cX8_go 177 = .ok (.ldc2_w 87, 3) := by decide +kernel
theorem dX8_go_180 : decode cX8_go 180 = .ok (.ldc2_w 89, 3) := by decide +kernel
theorem dX8_go_183 : decode cX8_go 183 = .ok (.invokestatic 83, 3) := by decide +kernel
theorem dX8_go_186 : decode cX8_go 186 = .ok (.ifCond .eq 85, 3) := by decide +kernel
theorem dX8_go_189 : decode cX8_go 189 = .ok (.aload_n 0, 1) := by decide +kernel
theorem dX8_go_190 : decode cX8_go 190 = .ok (.aload_n 0, 1) := by decide +kernel
theorem dX8_go_191 : decode cX8_go 191 = .ok (.getfield 60, 3) := by decide +kernel
theorem dX8_go_194 : decode cX8_go 194 = .ok (.invokevirtual 63, 3) := by decide +kernel
theorem dX8_go_197 : decode cX8_go 197 = .ok (.i2l, 1) := by decide +kernel
theorem dX8_go_198 : decode cX8_go 198 = .ok (.ldc2_w 87, 3) := by decide +kernel
theorem dX8_go_201 : decode cX8_go 201 = .ok (.ldc2_w 89, 3) := by decide +kernel
theorem dX8_go_204 : decode cX8_go 204 = .ok (.invokestatic 83, 3) := by decide +kernel
theorem dX8_go_207 : decode cX8_go 207 = .ok (.ifCond .eq 56, 3) := by decide +kernel
theorem dX8_go_210 : decode cX8_go 210 = .ok (.aload_n 0, 1) := by decide +kernel
theorem dX8_go_211 : decode cX8_go 211 = .ok (.aload_n 0, 1) := by decide +kernel
theorem dX8_go_212 : decode cX8_go 212 = .ok (.getfield 60, 3) := by decide +kernel
theorem dX8_go_215 : decode cX8_go 215 = .ok (.aload_n 0, 1) := by decide +kernel
theorem dX8_go_216 : decode cX8_go 216 = .ok (.getfield 67, 3) := by decide +kernel
theorem dX8_go_219 : decode cX8_go 219 = .ok (.isub, 1) := by decide +kernel
theorem dX8_go_220 : decode cX8_go 220 = .ok (.iconst 5, 1) := by decide +kernel
theorem dX8_go_221 : decode cX8_go 221 = .ok (.if_icmp .ge 25, 3) := by decide +kernel
theorem dX8_go_224 : decode cX8_go 224 = .ok (.bipush 10, 2) := by decide +kernel
theorem dX8_go_226 : decode cX8_go 226 = .ok (.aload_n 0, 1) := by decide +kernel
theorem dX8_go_227 : decode cX8_go 227 = .ok (.getfield 70, 3) := by decide +kernel
theorem dX8_go_230 : decode cX8_go 230 = .ok (.imul, 1) := by decide +kernel
theorem dX8_go_231 : decode cX8_go 231 = .ok (.aload_n 0, 1) := by decide +kernel
theorem dX8_go_232 : decode cX8_go 232 = .ok (.aload_n 0, 1) := by decide +kernel
theorem dX8_go_233 : decode cX8_go 233 = .ok (.getfield 60, 3) := by decide +kernel
theorem dX8_go_236 : decode cX8_go 236 = .ok (.invokevirtual 63, 3) := by decide +kernel
theorem dX8_go_239 : decode cX8_go 239 = .ok (.iadd, 1) := by decide +kernel
theorem dX8_go_240 : decode cX8_go 240 = .ok (.bipush 48, 2) := by decide +kernel
theorem dX8_go_242 : decode cX8_go 242 = .ok (.isub, 1) := by decide +kernel
theorem dX8_go_243 : decode cX8_go 243 = .ok (.goto 4, 3) := by decide +kernel
theorem dX8_go_246 : decode cX8_go 246 = .ok (.iconst (-1), 1) := by decide +kernel
theorem dX8_go_247 : decode cX8_go 247 = .ok (.putfield 70, 3) := by decide +kernel
theorem dX8_go_250 : decode cX8_go 250 = .ok (.aload_n 0, 1) := by decide +kernel
theorem dX8_go_251 : decode cX8_go 251 = .ok (.dup, 1) := by decide +kernel
theorem dX8_go_252 : decode cX8_go 252 = .ok (.getfield 60, 3) := by decide +kernel
theorem dX8_go_255 : decode cX8_go 255 = .ok (.iconst 1, 1) := by decide +kernel
theorem dX8_go_256 : decode cX8_go 256 = .ok (.iadd, 1) := by decide +kernel
theorem dX8_go_257 : decode cX8_go 257 = .ok (.putfield 60, 3) := by decide +kernel
theorem dX8_go_260 : decode cX8_go 260 = .ok (.goto (-71), 3) := by decide +kernel
theorem dX8_go_263 : decode cX8_go 263 = .ok (.aload_n 0, 1) := by decide +kernel
theorem dX8_go_264 : decode cX8_go 264 = .ok (.iconst 2, 1) := by decide +kernel
theorem dX8_go_265 : decode cX8_go 265 = .ok (.putfield 76, 3) := by decide +kernel
theorem dX8_go_268 : decode cX8_go 268 = .ok (.goto 28, 3) := by decide +kernel
theorem dX8_go_271 : decode cX8_go 271 = .ok (.aload_n 0, 1) := by decide +kernel
theorem dX8_go_272 : decode cX8_go 272 = .ok (.dup, 1) := by decide +kernel
theorem dX8_go_273 : decode cX8_go 273 = .ok (.getfield 60, 3) := by decide +kernel
theorem dX8_go_276 : decode cX8_go 276 = .ok (.iconst 1, 1) := by decide +kernel
theorem dX8_go_277 : decode cX8_go 277 = .ok (.iadd, 1) := by decide +kernel
theorem dX8_go_278 : decode cX8_go 278 = .ok (.putfield 60, 3) := by decide +kernel
theorem dX8_go_281 : decode cX8_go 281 = .ok (.aload_n 0, 1) := by decide +kernel
theorem dX8_go_282 : decode cX8_go 282 = .ok (.iload_n 1, 1) := by decide +kernel
theorem dX8_go_283 : decode cX8_go 283 = .ok (.bipush 59, 2) := by decide +kernel
theorem dX8_go_285 : decode cX8_go 285 = .ok (.if_icmp .ne 7, 3) := by decide +kernel
theorem dX8_go_288 : decode cX8_go 288 = .ok (.iconst 3, 1) := by decide +kernel
theorem dX8_go_289 : decode cX8_go 289 = .ok (.goto 4, 3) := by decide +kernel
theorem dX8_go_292 : decode cX8_go 292 = .ok (.iconst 4, 1) := by decide +kernel
theorem dX8_go_293 : decode cX8_go 293 = .ok (.putfield 76, 3) := by decide +kernel
theorem dX8_go_296 : decode cX8_go 296 = .ok (.return_, 1) := by decide +kernel
abbrev rX8_go : Room := { frames := 1, cells := 0, slots := 0, locals := 25 }
theorem cal_X8_go : CalOk yX8_go cX8_go 2 none 0 := ⟨wm_5_181, wm_1_9, by decide, by decide, by decide +kernel⟩
def f_X8_go_189 : Nat → Nat → Mm → Option (Unit × Mm)
  | 0, _, _ => none
  | n + 1, x0, M =>
    ck (gK M x0 = 8) (ck (gK M x0 = 8) (bd (f_X8_byteAt x0 (gI M x0 5) M) fun v2 M1 =>
    bd (f_X8_within (v2).toInt64 (48 : Int64) (57 : Int64) M1) fun v4 M3 =>
    (if v4 = 0 then
      ck (gK M3 x0 = 8) (nm (sI M3 x0 6 (2 : Int32)) fun M5 =>
      some ((), M5))
    else
      ck (gK M3 x0 = 8) (ck (gK M3 x0 = 8) ((if (5 : Int32) ≤ ((gI M3 x0 5) - (gI M3 x0 4)) then
        ck (gK M3 x0 = 8) (nm (sI M3 x0 7 (-1 : Int32)) fun M6 =>
        ck (gK M6 x0 = 8) (ck (gK M6 x0 = 8) (nm (sI M6 x0 5 ((gI M6 x0 5) + (1 : Int32))) fun M7 =>
        f_X8_go_189 n x0 M7)))
      else
        ck (gK M3 x0 = 8) (ck (gK M3 x0 = 8) (ck (gK M3 x0 = 8) (bd (f_X8_byteAt x0 (gI M3 x0 5) M3) fun v9 M8 =>
        ck (gK M8 x0 = 8) (nm (sI M8 x0 7 ((((10 : Int32) * (gI M3 x0 7)) + v9) - (48 : Int32))) fun M10 =>
        ck (gK M10 x0 = 8) (ck (gK M10 x0 = 8) (nm (sI M10 x0 5 ((gI M10 x0 5) + (1 : Int32))) fun M11 =>
        f_X8_go_189 n x0 M11))))))))))))
set_option maxRecDepth 20000 in
set_option maxHeartbeats 4000000 in
theorem s_X8_go_189 {z : Zt} {K : Unit → Mm → Prop} (hz : Good z RX8 cX8_go 2 rX8_go none) (hq : Ret z zU K) : ∀ (n : Nat) (x0 : Nat) (M : Mm), Sim z 189 [(0, .ref x0)] [] M 0 0 (f_X8_go_189 n x0 M) K := by
  intro n
  induction n with
  | zero => exact fun _ _ => r_none
  | succ n ih =>
    intro x0 M
    unfold f_X8_go_189
    refine r_aload_n hz dX8_go_189 0 rfl ?_
    refine r_aload_n hz dX8_go_190 0 rfl ?_
    refine r_getI (j := 5) cl8 hz dX8_go_191 (by decide) wm_5_61 rfl ?_
    refine r_callVi (As := fun _ => [.int (gI M x0 5)]) cl8 hz (fun _ _ h => t_X8_byteAt _ _ _ _ _ h) cal_X8_byteAt dX8_go_194 wm_5_182 wm_5_184 wm_p_45 rfl rfl (Nat.le_of_ble_eq_true rfl) ⟨(Nat.le_of_ble_eq_true rfl), (Nat.le_of_ble_eq_true rfl)⟩ ⟨(Nat.le_of_ble_eq_true rfl), (Nat.le_of_ble_eq_true rfl)⟩ (fun v2 M1 => ?_)
    refine r_i2l hz dX8_go_197 ?_
    refine r_ldc2 (v := 48) hz dX8_go_198 wm_5_188 ?_
    refine r_ldc2 (v := 57) hz dX8_go_201 wm_5_189 ?_
    refine r_callSi (As := fun _ => [.long (v2).toInt64, .long (48 : Int64), .long (57 : Int64)]) hz (fun _ _ h => t_X8_within _ _ _ _ _ _ h) cal_X8_within dX8_go_204 wm_5_175 wm_5_176 rfl rfl (Nat.le_of_ble_eq_true rfl) ⟨(Nat.le_of_ble_eq_true rfl), (Nat.le_of_ble_eq_true rfl)⟩ ⟨(Nat.le_of_ble_eq_true rfl), (Nat.le_of_ble_eq_true rfl)⟩ (fun v4 M3 => ?_)
    refine r_if_eq (tgt := 263) hz dX8_go_207 rfl ?_ ?_
    · refine r_aload_n hz dX8_go_263 0 rfl ?_
      refine r_iconst (v := 2) hz dX8_go_264 rfl ?_
      refine r_putI (j := 6) cl8 hz dX8_go_265 (by decide) wm_5_62 (Or.inl rfl) rfl rfl rfl ?_
      refine r_nmM (fun M5 => ?_)
      refine r_goto (tgt := 296) hz dX8_go_268 rfl ?_
      exact r_vret hz hq dX8_go_296 (Nat.le_of_ble_eq_true rfl) (Nat.le_of_ble_eq_true rfl)
    · refine r_aload_n hz dX8_go_210 0 rfl ?_
      refine r_aload_n hz dX8_go_211 0 rfl ?_
      refine r_getI (j := 5) cl8 hz dX8_go_212 (by decide) wm_5_61 rfl ?_
      refine r_aload_n hz dX8_go_215 0 rfl ?_
      refine r_getI (j := 4) cl8 hz dX8_go_216 (by decide) wm_5_60 rfl ?_
      refine r_isub hz dX8_go_219 ?_
      refine r_iconst (v := 5) hz dX8_go_220 rfl ?_
      refine r_icmp_ge (tgt := 246) hz dX8_go_221 rfl ?_ ?_
      · refine r_iconst (v := -1) hz dX8_go_246 rfl ?_
        refine r_putI (j := 7) cl8 hz dX8_go_247 (by decide) wm_5_63 (Or.inl rfl) rfl rfl rfl ?_
        refine r_nmM (fun M6 => ?_)
        refine r_aload_n hz dX8_go_250 0 rfl ?_
        refine r_dup hz dX8_go_251 rfl ?_
        refine r_getI (j := 5) cl8 hz dX8_go_252 (by decide) wm_5_61 rfl ?_
        refine r_iconst (v := 1) hz dX8_go_255 rfl ?_
        refine r_iadd hz dX8_go_256 ?_
        refine r_putI (j := 5) cl8 hz dX8_go_257 (by decide) wm_5_61 (Or.inl rfl) rfl rfl rfl ?_
        refine r_nmM (fun M7 => ?_)
        refine r_goto (tgt := 189) hz dX8_go_260 rfl ?_
        exact ih x0 M7
      · refine r_bipush (v := 10) hz dX8_go_224 rfl ?_
        refine r_aload_n hz dX8_go_226 0 rfl ?_
        refine r_getI (j := 7) cl8 hz dX8_go_227 (by decide) wm_5_63 rfl ?_
        refine r_imul hz dX8_go_230 ?_
        refine r_aload_n hz dX8_go_231 0 rfl ?_
        refine r_aload_n hz dX8_go_232 0 rfl ?_
        refine r_getI (j := 5) cl8 hz dX8_go_233 (by decide) wm_5_61 rfl ?_
        refine r_callVi (As := fun _ => [.int (gI M3 x0 5)]) cl8 hz (fun _ _ h => t_X8_byteAt _ _ _ _ _ h) cal_X8_byteAt dX8_go_236 wm_5_182 wm_5_184 wm_p_45 rfl rfl (Nat.le_of_ble_eq_true rfl) ⟨(Nat.le_of_ble_eq_true rfl), (Nat.le_of_ble_eq_true rfl)⟩ ⟨(Nat.le_of_ble_eq_true rfl), (Nat.le_of_ble_eq_true rfl)⟩ (fun v9 M8 => ?_)
        refine r_iadd hz dX8_go_239 ?_
        refine r_bipush (v := 48) hz dX8_go_240 rfl ?_
        refine r_isub hz dX8_go_242 ?_
        refine r_goto (tgt := 247) hz dX8_go_243 rfl ?_
        refine r_putI (j := 7) cl8 hz dX8_go_247 (by decide) wm_5_63 (Or.inl rfl) rfl rfl rfl ?_
        refine r_nmM (fun M10 => ?_)
        refine r_aload_n hz dX8_go_250 0 rfl ?_
        refine r_dup hz dX8_go_251 rfl ?_
        refine r_getI (j := 5) cl8 hz dX8_go_252 (by decide) wm_5_61 rfl ?_
        refine r_iconst (v := 1) hz dX8_go_255 rfl ?_
        refine r_iadd hz dX8_go_256 ?_
        refine r_putI (j := 5) cl8 hz dX8_go_257 (by decide) wm_5_61 (Or.inl rfl) rfl rfl rfl ?_
        refine r_nmM (fun M11 => ?_)
        refine r_goto (tgt := 189) hz dX8_go_260 rfl ?_
        exact ih x0 M11
def f_X8_go_92 : Nat → Nat → Mm → Option (Unit × Mm)
  | 0, _, _ => none
  | n + 1, x0, M =>
    ck (gK M x0 = 8) (ck (gK M x0 = 8) (bd (f_X8_byteAt x0 (gI M x0 5) M) fun v2 M1 =>
    bd (f_X8_within (v2).toInt64 (97 : Int64) (122 : Int64) M1) fun v4 M3 =>
    (if v4 = 0 then
      ck (gK M3 x0 = 8) (nm (sI M3 x0 6 (1 : Int32)) fun M5 =>
      some ((), M5))
    else
      ck (gK M3 x0 = 8) (ck (gK M3 x0 = 8) ((if (6 : Int32) ≤ ((gI M3 x0 5) - (gI M3 x0 4)) then
        ck (gK M3 x0 = 8) (nm (sI M3 x0 8 (-1 : Int32)) fun M6 =>
        ck (gK M6 x0 = 8) (ck (gK M6 x0 = 8) (nm (sI M6 x0 5 ((gI M6 x0 5) + (1 : Int32))) fun M7 =>
        f_X8_go_92 n x0 M7)))
      else
        ck (gK M3 x0 = 8) (ck (gK M3 x0 = 8) (ck (gK M3 x0 = 8) (bd (f_X8_byteAt x0 (gI M3 x0 5) M3) fun v9 M8 =>
        ck (gK M8 x0 = 8) (nm (sI M8 x0 8 ((((32 : Int32) * (gI M3 x0 8)) + v9) - (96 : Int32))) fun M10 =>
        ck (gK M10 x0 = 8) (ck (gK M10 x0 = 8) (nm (sI M10 x0 5 ((gI M10 x0 5) + (1 : Int32))) fun M11 =>
        f_X8_go_92 n x0 M11))))))))))))
set_option maxRecDepth 20000 in
set_option maxHeartbeats 4000000 in
theorem s_X8_go_92 {z : Zt} {K : Unit → Mm → Prop} (hz : Good z RX8 cX8_go 2 rX8_go none) (hq : Ret z zU K) : ∀ (n : Nat) (x0 : Nat) (M : Mm), Sim z 92 [(0, .ref x0)] [] M 0 0 (f_X8_go_92 n x0 M) K := by
  intro n
  induction n with
  | zero => exact fun _ _ => r_none
  | succ n ih =>
    intro x0 M
    unfold f_X8_go_92
    refine r_aload_n hz dX8_go_92 0 rfl ?_
    refine r_aload_n hz dX8_go_93 0 rfl ?_
    refine r_getI (j := 5) cl8 hz dX8_go_94 (by decide) wm_5_61 rfl ?_
    refine r_callVi (As := fun _ => [.int (gI M x0 5)]) cl8 hz (fun _ _ h => t_X8_byteAt _ _ _ _ _ h) cal_X8_byteAt dX8_go_97 wm_5_182 wm_5_184 wm_p_45 rfl rfl (Nat.le_of_ble_eq_true rfl) ⟨(Nat.le_of_ble_eq_true rfl), (Nat.le_of_ble_eq_true rfl)⟩ ⟨(Nat.le_of_ble_eq_true rfl), (Nat.le_of_ble_eq_true rfl)⟩ (fun v2 M1 => ?_)
    refine r_i2l hz dX8_go_100 ?_
    refine r_ldc2 (v := 97) hz dX8_go_101 wm_5_186 ?_
    refine r_ldc2 (v := 122) hz dX8_go_104 wm_5_187 ?_
    refine r_callSi (As := fun _ => [.long (v2).toInt64, .long (97 : Int64), .long (122 : Int64)]) hz (fun _ _ h => t_X8_within _ _ _ _ _ _ h) cal_X8_within dX8_go_107 wm_5_175 wm_5_176 rfl rfl (Nat.le_of_ble_eq_true rfl) ⟨(Nat.le_of_ble_eq_true rfl), (Nat.le_of_ble_eq_true rfl)⟩ ⟨(Nat.le_of_ble_eq_true rfl), (Nat.le_of_ble_eq_true rfl)⟩ (fun v4 M3 => ?_)
    refine r_if_eq (tgt := 167) hz dX8_go_110 rfl ?_ ?_
    · refine r_aload_n hz dX8_go_167 0 rfl ?_
      refine r_iconst (v := 1) hz dX8_go_168 rfl ?_
      refine r_putI (j := 6) cl8 hz dX8_go_169 (by decide) wm_5_62 (Or.inl rfl) rfl rfl rfl ?_
      refine r_nmM (fun M5 => ?_)
      refine r_goto (tgt := 296) hz dX8_go_172 rfl ?_
      exact r_vret hz hq dX8_go_296 (Nat.le_of_ble_eq_true rfl) (Nat.le_of_ble_eq_true rfl)
    · refine r_aload_n hz dX8_go_113 0 rfl ?_
      refine r_aload_n hz dX8_go_114 0 rfl ?_
      refine r_getI (j := 5) cl8 hz dX8_go_115 (by decide) wm_5_61 rfl ?_
      refine r_aload_n hz dX8_go_118 0 rfl ?_
      refine r_getI (j := 4) cl8 hz dX8_go_119 (by decide) wm_5_60 rfl ?_
      refine r_isub hz dX8_go_122 ?_
      refine r_bipush (v := 6) hz dX8_go_123 rfl ?_
      refine r_icmp_ge (tgt := 150) hz dX8_go_125 rfl ?_ ?_
      · refine r_iconst (v := -1) hz dX8_go_150 rfl ?_
        refine r_putI (j := 8) cl8 hz dX8_go_151 (by decide) wm_5_64 (Or.inl rfl) rfl rfl rfl ?_
        refine r_nmM (fun M6 => ?_)
        refine r_aload_n hz dX8_go_154 0 rfl ?_
        refine r_dup hz dX8_go_155 rfl ?_
        refine r_getI (j := 5) cl8 hz dX8_go_156 (by decide) wm_5_61 rfl ?_
        refine r_iconst (v := 1) hz dX8_go_159 rfl ?_
        refine r_iadd hz dX8_go_160 ?_
        refine r_putI (j := 5) cl8 hz dX8_go_161 (by decide) wm_5_61 (Or.inl rfl) rfl rfl rfl ?_
        refine r_nmM (fun M7 => ?_)
        refine r_goto (tgt := 92) hz dX8_go_164 rfl ?_
        exact ih x0 M7
      · refine r_bipush (v := 32) hz dX8_go_128 rfl ?_
        refine r_aload_n hz dX8_go_130 0 rfl ?_
        refine r_getI (j := 8) cl8 hz dX8_go_131 (by decide) wm_5_64 rfl ?_
        refine r_imul hz dX8_go_134 ?_
        refine r_aload_n hz dX8_go_135 0 rfl ?_
        refine r_aload_n hz dX8_go_136 0 rfl ?_
        refine r_getI (j := 5) cl8 hz dX8_go_137 (by decide) wm_5_61 rfl ?_
        refine r_callVi (As := fun _ => [.int (gI M3 x0 5)]) cl8 hz (fun _ _ h => t_X8_byteAt _ _ _ _ _ h) cal_X8_byteAt dX8_go_140 wm_5_182 wm_5_184 wm_p_45 rfl rfl (Nat.le_of_ble_eq_true rfl) ⟨(Nat.le_of_ble_eq_true rfl), (Nat.le_of_ble_eq_true rfl)⟩ ⟨(Nat.le_of_ble_eq_true rfl), (Nat.le_of_ble_eq_true rfl)⟩ (fun v9 M8 => ?_)
        refine r_iadd hz dX8_go_143 ?_
        refine r_bipush (v := 96) hz dX8_go_144 rfl ?_
        refine r_isub hz dX8_go_146 ?_
        refine r_goto (tgt := 151) hz dX8_go_147 rfl ?_
        refine r_putI (j := 8) cl8 hz dX8_go_151 (by decide) wm_5_64 (Or.inl rfl) rfl rfl rfl ?_
        refine r_nmM (fun M10 => ?_)
        refine r_aload_n hz dX8_go_154 0 rfl ?_
        refine r_dup hz dX8_go_155 rfl ?_
        refine r_getI (j := 5) cl8 hz dX8_go_156 (by decide) wm_5_61 rfl ?_
        refine r_iconst (v := 1) hz dX8_go_159 rfl ?_
        refine r_iadd hz dX8_go_160 ?_
        refine r_putI (j := 5) cl8 hz dX8_go_161 (by decide) wm_5_61 (Or.inl rfl) rfl rfl rfl ?_
        refine r_nmM (fun M11 => ?_)
        refine r_goto (tgt := 92) hz dX8_go_164 rfl ?_
        exact ih x0 M11
def f_X8_go_0 : Nat → Nat → Mm → Option (Unit × Mm)
  | 0, _, _ => none
  | n + 1, x0, M =>
    ck (gK M x0 = 8) (ck (gK M x0 = 8) (bd (f_X8_byteAt x0 (gI M x0 5) M) fun v2 M1 =>
    (if v2 = (32 : Int32) then
      ck (gK M1 x0 = 8) (ck (gK M1 x0 = 8) (nm (sI M1 x0 5 ((gI M1 x0 5) + (1 : Int32))) fun M3 =>
      f_X8_go_0 n x0 M3))
    else
      ck (gK M1 x0 = 8) (ck (gK M1 x0 = 8) (bd (f_X8_byteAt x0 (gI M1 x0 5) M1) fun v5 M4 =>
      (if ¬ v5 = (10 : Int32) then
        ck (gK M4 x0 = 8) (ck (gK M4 x0 = 8) (nm (sI M4 x0 4 (gI M4 x0 5)) fun M6 =>
        ck (gK M6 x0 = 8) (nm (sI M6 x0 7 (0 : Int32)) fun M7 =>
        ck (gK M7 x0 = 8) (nm (sI M7 x0 8 (0 : Int32)) fun M8 =>
        ck (gK M8 x0 = 8) (ck (gK M8 x0 = 8) (bd (f_X8_byteAt x0 (gI M8 x0 5) M8) fun v10 M9 =>
        (if 0 ≤ v10 then
          bd (f_X8_within (v10).toInt64 (97 : Int64) (122 : Int64) M9) fun v12 M11 =>
          (if v12 = 0 then
            bd (f_X8_within (v10).toInt64 (48 : Int64) (57 : Int64) M11) fun v14 M13 =>
            (if v14 = 0 then
              ck (gK M13 x0 = 8) (ck (gK M13 x0 = 8) (nm (sI M13 x0 5 ((gI M13 x0 5) + (1 : Int32))) fun M15 =>
              (if ¬ v10 = (59 : Int32) then
                ck (gK M15 x0 = 8) (nm (sI M15 x0 6 (4 : Int32)) fun M16 =>
                some ((), M16))
              else
                ck (gK M15 x0 = 8) (nm (sI M15 x0 6 (3 : Int32)) fun M17 =>
                some ((), M17)))))
            else
              f_X8_go_189 FU x0 M13)
          else
            f_X8_go_92 FU x0 M11)
        else
          ck (gK M9 x0 = 8) (nm (sI M9 x0 6 (0 : Int32)) fun M18 =>
          some ((), M18)))))))))
      else
        ck (gK M4 x0 = 8) (ck (gK M4 x0 = 8) (nm (sI M4 x0 5 ((gI M4 x0 5) + (1 : Int32))) fun M19 =>
        f_X8_go_0 n x0 M19))))))))
set_option maxRecDepth 20000 in
set_option maxHeartbeats 4000000 in
theorem s_X8_go_0 {z : Zt} {K : Unit → Mm → Prop} (hz : Good z RX8 cX8_go 2 rX8_go none) (hq : Ret z zU K) : ∀ (n : Nat) (x0 : Nat) (M : Mm), Sim z 0 [(0, .ref x0)] [] M 0 0 (f_X8_go_0 n x0 M) K := by
  intro n
  induction n with
  | zero => exact fun _ _ => r_none
  | succ n ih =>
    intro x0 M
    unfold f_X8_go_0
    refine r_aload_n hz dX8_go_0 0 rfl ?_
    refine r_aload_n hz dX8_go_1 0 rfl ?_
    refine r_getI (j := 5) cl8 hz dX8_go_2 (by decide) wm_5_61 rfl ?_
    refine r_callVi (As := fun _ => [.int (gI M x0 5)]) cl8 hz (fun _ _ h => t_X8_byteAt _ _ _ _ _ h) cal_X8_byteAt dX8_go_5 wm_5_182 wm_5_184 wm_p_45 rfl rfl (Nat.le_of_ble_eq_true rfl) ⟨(Nat.le_of_ble_eq_true rfl), (Nat.le_of_ble_eq_true rfl)⟩ ⟨(Nat.le_of_ble_eq_true rfl), (Nat.le_of_ble_eq_true rfl)⟩ (fun v2 M1 => ?_)
    refine r_bipush (v := 32) hz dX8_go_8 rfl ?_
    refine r_icmp_eq (tgt := 26) hz dX8_go_10 rfl ?_ ?_
    · refine r_aload_n hz dX8_go_26 0 rfl ?_
      refine r_dup hz dX8_go_27 rfl ?_
      refine r_getI (j := 5) cl8 hz dX8_go_28 (by decide) wm_5_61 rfl ?_
      refine r_iconst (v := 1) hz dX8_go_31 rfl ?_
      refine r_iadd hz dX8_go_32 ?_
      refine r_putI (j := 5) cl8 hz dX8_go_33 (by decide) wm_5_61 (Or.inl rfl) rfl rfl rfl ?_
      refine r_nmM (fun M3 => ?_)
      refine r_goto (tgt := 0) hz dX8_go_36 rfl ?_
      exact ih x0 M3
    · refine r_aload_n hz dX8_go_13 0 rfl ?_
      refine r_aload_n hz dX8_go_14 0 rfl ?_
      refine r_getI (j := 5) cl8 hz dX8_go_15 (by decide) wm_5_61 rfl ?_
      refine r_callVi (As := fun _ => [.int (gI M1 x0 5)]) cl8 hz (fun _ _ h => t_X8_byteAt _ _ _ _ _ h) cal_X8_byteAt dX8_go_18 wm_5_182 wm_5_184 wm_p_45 rfl rfl (Nat.le_of_ble_eq_true rfl) ⟨(Nat.le_of_ble_eq_true rfl), (Nat.le_of_ble_eq_true rfl)⟩ ⟨(Nat.le_of_ble_eq_true rfl), (Nat.le_of_ble_eq_true rfl)⟩ (fun v5 M4 => ?_)
      refine r_bipush (v := 10) hz dX8_go_21 rfl ?_
      refine r_icmp_ne (tgt := 39) hz dX8_go_23 rfl ?_ ?_
      · refine r_aload_n hz dX8_go_39 0 rfl ?_
        refine r_aload_n hz dX8_go_40 0 rfl ?_
        refine r_getI (j := 5) cl8 hz dX8_go_41 (by decide) wm_5_61 rfl ?_
        refine r_putI (j := 4) cl8 hz dX8_go_44 (by decide) wm_5_60 (Or.inl rfl) rfl rfl rfl ?_
        refine r_nmM (fun M6 => ?_)
        refine r_aload_n hz dX8_go_47 0 rfl ?_
        refine r_iconst (v := 0) hz dX8_go_48 rfl ?_
        refine r_putI (j := 7) cl8 hz dX8_go_49 (by decide) wm_5_63 (Or.inl rfl) rfl rfl rfl ?_
        refine r_nmM (fun M7 => ?_)
        refine r_aload_n hz dX8_go_52 0 rfl ?_
        refine r_iconst (v := 0) hz dX8_go_53 rfl ?_
        refine r_putI (j := 8) cl8 hz dX8_go_54 (by decide) wm_5_64 (Or.inl rfl) rfl rfl rfl ?_
        refine r_nmM (fun M8 => ?_)
        refine r_aload_n hz dX8_go_57 0 rfl ?_
        refine r_aload_n hz dX8_go_58 0 rfl ?_
        refine r_getI (j := 5) cl8 hz dX8_go_59 (by decide) wm_5_61 rfl ?_
        refine r_callVi (As := fun _ => [.int (gI M8 x0 5)]) cl8 hz (fun _ _ h => t_X8_byteAt _ _ _ _ _ h) cal_X8_byteAt dX8_go_62 wm_5_182 wm_5_184 wm_p_45 rfl rfl (Nat.le_of_ble_eq_true rfl) ⟨(Nat.le_of_ble_eq_true rfl), (Nat.le_of_ble_eq_true rfl)⟩ ⟨(Nat.le_of_ble_eq_true rfl), (Nat.le_of_ble_eq_true rfl)⟩ (fun v10 M9 => ?_)
        refine r_istore_n (lv' := [(1, .int v10), (0, .ref x0)]) hz dX8_go_65 (by decide) rfl ?_
        refine r_iload_n hz dX8_go_66 0 rfl ?_
        refine r_if_ge (tgt := 78) hz dX8_go_67 rfl ?_ ?_
        · refine r_iload_n hz dX8_go_78 0 rfl ?_
          refine r_i2l hz dX8_go_79 ?_
          refine r_ldc2 (v := 97) hz dX8_go_80 wm_5_186 ?_
          refine r_ldc2 (v := 122) hz dX8_go_83 wm_5_187 ?_
          refine r_callSi (As := fun _ => [.long (v10).toInt64, .long (97 : Int64), .long (122 : Int64)]) hz (fun _ _ h => t_X8_within _ _ _ _ _ _ h) cal_X8_within dX8_go_86 wm_5_175 wm_5_176 rfl rfl (Nat.le_of_ble_eq_true rfl) ⟨(Nat.le_of_ble_eq_true rfl), (Nat.le_of_ble_eq_true rfl)⟩ ⟨(Nat.le_of_ble_eq_true rfl), (Nat.le_of_ble_eq_true rfl)⟩ (fun v12 M11 => ?_)
          refine r_if_eq (tgt := 175) hz dX8_go_89 rfl ?_ ?_
          · refine r_iload_n hz dX8_go_175 0 rfl ?_
            refine r_i2l hz dX8_go_176 ?_
            refine r_ldc2 (v := 48) hz dX8_go_177 wm_5_188 ?_
            refine r_ldc2 (v := 57) hz dX8_go_180 wm_5_189 ?_
            refine r_callSi (As := fun _ => [.long (v10).toInt64, .long (48 : Int64), .long (57 : Int64)]) hz (fun _ _ h => t_X8_within _ _ _ _ _ _ h) cal_X8_within dX8_go_183 wm_5_175 wm_5_176 rfl rfl (Nat.le_of_ble_eq_true rfl) ⟨(Nat.le_of_ble_eq_true rfl), (Nat.le_of_ble_eq_true rfl)⟩ ⟨(Nat.le_of_ble_eq_true rfl), (Nat.le_of_ble_eq_true rfl)⟩ (fun v14 M13 => ?_)
            refine r_if_eq (tgt := 271) hz dX8_go_186 rfl ?_ ?_
            · refine r_aload_n hz dX8_go_271 1 rfl ?_
              refine r_dup hz dX8_go_272 rfl ?_
              refine r_getI (j := 5) cl8 hz dX8_go_273 (by decide) wm_5_61 rfl ?_
              refine r_iconst (v := 1) hz dX8_go_276 rfl ?_
              refine r_iadd hz dX8_go_277 ?_
              refine r_putI (j := 5) cl8 hz dX8_go_278 (by decide) wm_5_61 (Or.inl rfl) rfl rfl rfl ?_
              refine r_nmM (fun M15 => ?_)
              refine r_aload_n hz dX8_go_281 1 rfl ?_
              refine r_iload_n hz dX8_go_282 0 rfl ?_
              refine r_bipush (v := 59) hz dX8_go_283 rfl ?_
              refine r_icmp_ne (tgt := 292) hz dX8_go_285 rfl ?_ ?_
              · refine r_iconst (v := 4) hz dX8_go_292 rfl ?_
                refine r_putI (j := 6) cl8 hz dX8_go_293 (by decide) wm_5_62 (Or.inl rfl) rfl rfl rfl ?_
                refine r_nmM (fun M16 => ?_)
                exact r_vret hz hq dX8_go_296 (Nat.le_of_ble_eq_true rfl) (Nat.le_of_ble_eq_true rfl)
              · refine r_iconst (v := 3) hz dX8_go_288 rfl ?_
                refine r_goto (tgt := 293) hz dX8_go_289 rfl ?_
                refine r_putI (j := 6) cl8 hz dX8_go_293 (by decide) wm_5_62 (Or.inl rfl) rfl rfl rfl ?_
                refine r_nmM (fun M17 => ?_)
                exact r_vret hz hq dX8_go_296 (Nat.le_of_ble_eq_true rfl) (Nat.le_of_ble_eq_true rfl)
            · refine r_sub [1] rfl ?_
              exact s_X8_go_189 hz hq FU x0 M13
          · refine r_sub [1] rfl ?_
            exact s_X8_go_92 hz hq FU x0 M11
        · refine r_aload_n hz dX8_go_70 1 rfl ?_
          refine r_iconst (v := 0) hz dX8_go_71 rfl ?_
          refine r_putI (j := 6) cl8 hz dX8_go_72 (by decide) wm_5_62 (Or.inl rfl) rfl rfl rfl ?_
          refine r_nmM (fun M18 => ?_)
          refine r_goto (tgt := 296) hz dX8_go_75 rfl ?_
          exact r_vret hz hq dX8_go_296 (Nat.le_of_ble_eq_true rfl) (Nat.le_of_ble_eq_true rfl)
      · refine r_aload_n hz dX8_go_26 0 rfl ?_
        refine r_dup hz dX8_go_27 rfl ?_
        refine r_getI (j := 5) cl8 hz dX8_go_28 (by decide) wm_5_61 rfl ?_
        refine r_iconst (v := 1) hz dX8_go_31 rfl ?_
        refine r_iadd hz dX8_go_32 ?_
        refine r_putI (j := 5) cl8 hz dX8_go_33 (by decide) wm_5_61 (Or.inl rfl) rfl rfl rfl ?_
        refine r_nmM (fun M19 => ?_)
        refine r_goto (tgt := 0) hz dX8_go_36 rfl ?_
        exact ih x0 M19
def f_X8_go (p0 : Nat) (M : Mm) : Option (Unit × Mm) :=
  f_X8_go_0 FU p0 M
set_option maxRecDepth 20000 in
set_option maxHeartbeats 4000000 in
theorem t_X8_go (p0 : Nat) (M : Mm) (x : Unit) (M' : Mm) (h : f_X8_go p0 M = some (x, M')) : Ctr yX8_go cX8_go 2 none rX8_go (fun _ => [.ref p0]) M (zU x) M' := by
  refine ctr_of (plainFor_of_name (by decide)) (fun _ => Nat.le_of_ble_eq_true rfl) (fun z hz hin hq => ?_)
  have key : Sim z 0 [(0, .ref p0)] [] M 0 0 (f_X8_go p0 M) (fun a b => a = x ∧ b = M') := by
    have hq : Ret z zU (fun a b => a = x ∧ b = M') := fun a b e => by rw [e.1, e.2]; exact hq
    unfold f_X8_go
    exact s_X8_go_0 hz hq FU p0 M
  exact key x M' h ⟨rfl, rfl⟩
theorem dX8_is_0 : decode cX8_is 0 = .ok (.aload_n 0, 1) := by decide +kernel
theorem dX8_is_1 : decode cX8_is 1 = .ok (.getfield 76, 3) := by decide +kernel
theorem dX8_is_4 : decode cX8_is 4 = .ok (.iconst 1, 1) := by decide +kernel
theorem dX8_is_5 : decode cX8_is 5 = .ok (.if_icmp .ne 15, 3) := by decide +kernel
theorem dX8_is_8 : decode cX8_is 8 = .ok (.aload_n 0, 1) := by decide +kernel
theorem dX8_is_9 : decode cX8_is 9 = .ok (.getfield 73, 3) := by decide +kernel
theorem dX8_is_12 : decode cX8_is 12 = .ok (.iload_n 1, 1) := by decide +kernel
theorem dX8_is_13 : decode cX8_is 13 = .ok (.if_icmp .ne 7, 3) := by decide +kernel
theorem dX8_is_16 : decode cX8_is 16 = .ok (.iconst 1, 1) := by decide +kernel
theorem dX8_is_17 : decode cX8_is 17 = .ok (.goto 4, 3) := by decide +kernel
theorem dX8_is_20 : decode cX8_is 20 = .ok (.iconst 0, 1) := by decide +kernel
theorem dX8_is_21 : decode cX8_is 21 = .ok (.ireturn, 1) := by decide +kernel
abbrev rX8_is : Room := { frames := 0, cells := 0, slots := 0, locals := 0 }
theorem cal_X8_is : CalOk yX8_is cX8_is 2 (some .boolean) 1 := ⟨wm_5_199, wm_1_9, by decide, by decide, by decide +kernel⟩
def f_X8_is (p0 : Nat) (p1 : Int32) (M : Mm) : Option (Int32 × Mm) :=
  ck (gK M p0 = 8) ((if ¬ (gI M p0 6) = (1 : Int32) then
    some ((0 : Int32), M)
  else
    ck (gK M p0 = 8) ((if ¬ (gI M p0 8) = p1 then
      some ((0 : Int32), M)
    else
      some ((1 : Int32), M)))))
set_option maxRecDepth 20000 in
set_option maxHeartbeats 4000000 in
theorem t_X8_is (p0 : Nat) (p1 : Int32) (M : Mm) (x : Int32) (M' : Mm) (h : f_X8_is p0 p1 M = some (x, M')) : Ctr yX8_is cX8_is 2 (some .boolean) rX8_is (fun _ => [.ref p0, .int p1]) M (zI x) M' := by
  refine ctr_of (plainFor_of_name (by decide)) (fun _ => Nat.le_of_ble_eq_true rfl) (fun z hz hin hq => ?_)
  have key : Sim z 0 [(0, .ref p0), (1, .int p1)] [] M 0 0 (f_X8_is p0 p1 M) (fun a b => a = x ∧ b = M') := by
    have hq : Ret z zI (fun a b => a = x ∧ b = M') := fun a b e => by rw [e.1, e.2]; exact hq
    unfold f_X8_is
    refine r_aload_n hz dX8_is_0 0 rfl ?_
    refine r_getI (j := 6) cl8 hz dX8_is_1 (by decide) wm_5_62 rfl ?_
    refine r_iconst (v := 1) hz dX8_is_4 rfl ?_
    refine r_icmp_ne (tgt := 20) hz dX8_is_5 rfl ?_ ?_
    · refine r_iconst (v := 0) hz dX8_is_20 rfl ?_
      exact r_zret hz hq dX8_is_21 (Or.inl rfl) (Nat.le_of_ble_eq_true rfl) (Nat.le_of_ble_eq_true rfl)
    · refine r_aload_n hz dX8_is_8 0 rfl ?_
      refine r_getI (j := 8) cl8 hz dX8_is_9 (by decide) wm_5_64 rfl ?_
      refine r_iload_n hz dX8_is_12 1 rfl ?_
      refine r_icmp_ne (tgt := 20) hz dX8_is_13 rfl ?_ ?_
      · refine r_iconst (v := 0) hz dX8_is_20 rfl ?_
        exact r_zret hz hq dX8_is_21 (Or.inl rfl) (Nat.le_of_ble_eq_true rfl) (Nat.le_of_ble_eq_true rfl)
      · refine r_iconst (v := 1) hz dX8_is_16 rfl ?_
        refine r_goto (tgt := 21) hz dX8_is_17 rfl ?_
        exact r_zret hz hq dX8_is_21 (Or.inr rfl) (Nat.le_of_ble_eq_true rfl) (Nat.le_of_ble_eq_true rfl)
  exact key x M' h ⟨rfl, rfl⟩
theorem dX8_isOwn_0 : decode cX8_isOwn 0 = .ok (.aload_n 0, 1) := by decide +kernel
theorem dX8_isOwn_1 : decode cX8_isOwn 1 = .ok (.getstatic 91, 3) := by decide +kernel
theorem dX8_isOwn_4 : decode cX8_isOwn 4 = .ok (.invokevirtual 94, 3) := by decide +kernel
theorem dX8_isOwn_7 : decode cX8_isOwn 7 = .ok (.ifCond .ne 133, 3) := by decide +kernel
theorem dX8_isOwn_10 : decode cX8_isOwn 10 = .ok (.aload_n 0, 1) := by decide +kernel
theorem dX8_isOwn_11 : decode cX8_isOwn 11 = .ok (.getstatic 98, 3) := by decide +kernel
theorem dX8_isOwn_14 : decode cX8_isOwn 14 = .ok (.invokevirtual 94, 3) := by decide +kernel
theorem dX8_isOwn_17 : decode cX8_isOwn 17 = .ok (.ifCond .ne 123, 3) := by decide +kernel
theorem dX8_isOwn_20 : decode cX8_isOwn 20 = .ok (.aload_n 0, 1) := by decide +kernel
theorem dX8_isOwn_21 : decode cX8_isOwn 21 = .ok (.getstatic 101, 3) := by decide +kernel
theorem dX8_isOwn_24 : decode cX8_isOwn 24 = .ok (.invokevirtual 94, 3) := by decide +kernel
theorem dX8_isOwn_27 : decode cX8_isOwn 27 = .ok (.ifCond .ne 113, 3) := by decide +kernel
theorem dX8_isOwn_30 : decode cX8_isOwn 30 = .ok (.aload_n 0, 1) := by decide +kernel
theorem dX8_isOwn_31 : decode cX8_isOwn 31 = .ok (.getstatic 104, 3) := by decide +kernel
theorem dX8_isOwn_34 : decode cX8_isOwn 34 = .ok (.invokevirtual 94, 3) := by decide +kernel
theorem dX8_isOwn_37 : decode cX8_isOwn 37 = .ok (.ifCond .ne 103, 3) := by decide +kernel
theorem dX8_isOwn_40 : decode cX8_isOwn 40 = .ok (.aload_n 0, 1) := by decide +kernel
theorem dX8_isOwn_41 : decode cX8_isOwn 41 = .ok (.getstatic 107, 3) := by decide +kernel
theorem dX8_isOwn_44 : decode cX8_isOwn 44 = .ok (.invokevirtual 94, 3) := by decide +kernel
theorem dX8_isOwn_47 : decode cX8_isOwn 47 = .ok (.ifCond .ne 93, 3) := by decide +kernel
theorem dX8_isOwn_50 : decode cX8_isOwn 50 = .ok (.aload_n 0, 1) := by decide +kernel
theorem dX8_isOwn_51 : decode cX8_isOwn 51 = .ok (.getstatic 110, 3) := by decide +kernel
theorem dX8_isOwn_54 : decode cX8_isOwn 54 = .ok (.invokevirtual 94, 3) := by decide +kernel
theorem dX8_isOwn_57 : decode cX8_isOwn 57 = .ok (.ifCond .ne 83, 3) := by decide +kernel
theorem dX8_isOwn_60 : decode cX8_isOwn 60 = .ok (.aload_n 0, 1) := by decide +kernel
theorem dX8_isOwn_61 : decode cX8_isOwn 61 = .ok (.getstatic 113, 3) := by decide +kernel
theorem dX8_isOwn_64 : decode cX8_isOwn 64 = .ok (.invokevirtual 94, 3) := by decide +kernel
theorem dX8_isOwn_67 : decode cX8_isOwn 67 = .ok (.ifCond .ne 73, 3) := by decide +kernel
theorem dX8_isOwn_70 : decode cX8_isOwn 70 = .ok (.aload_n 0, 1) := by decide +kernel
theorem dX8_isOwn_71 : decode cX8_isOwn 71 = .ok (.getstatic 116, 3) := by decide +kernel
theorem dX8_isOwn_74 : decode cX8_isOwn 74 = .ok (.invokevirtual 94, 3) := by decide +kernel
theorem dX8_isOwn_77 : decode cX8_isOwn 77 = .ok (.ifCond .ne 63, 3) := by decide +kernel
theorem dX8_isOwn_80 : decode cX8_isOwn 80 = .ok (.aload_n 0, 1) := by decide +kernel
theorem dX8_isOwn_81 : decode cX8_isOwn 81 = .ok (.getstatic 119, 3) := by decide +kernel
theorem dX8_isOwn_84 : decode cX8_isOwn 84 = .ok (.invokevirtual 94, 3) := by decide +kernel
theorem dX8_isOwn_87 : decode cX8_isOwn 87 = .ok (.ifCond .ne 53, 3) := by decide +kernel
theorem dX8_isOwn_90 : decode cX8_isOwn 90 = .ok (.aload_n 0, 1) := by decide +kernel
theorem dX8_isOwn_91 : decode cX8_isOwn 91 = .ok (.getstatic 122, 3) := by decide +kernel
theorem dX8_isOwn_94 : decode cX8_isOwn 94 = .ok (.invokevirtual 94, 3) := by decide +kernel
theorem dX8_isOwn_97 : decode cX8_isOwn 97 = .ok (.ifCond .ne 43, 3) := by decide +kernel
theorem dX8_isOwn_100 : decode cX8_isOwn 100 = .ok (.aload_n 0, 1) := by decide +kernel
theorem dX8_isOwn_101 : decode cX8_isOwn 101 = .ok (.getstatic 125, 3) := by decide +kernel
theorem dX8_isOwn_104 : decode cX8_isOwn 104 = .ok (.invokevirtual 94, 3) := by decide +kernel
theorem dX8_isOwn_107 : decode cX8_isOwn 107 = .ok (.ifCond .ne 33, 3) := by decide +kernel
theorem dX8_isOwn_110 : decode cX8_isOwn 110 = .ok (.aload_n 0, 1) := by decide +kernel
theorem dX8_isOwn_111 : decode cX8_isOwn 111 = .ok (.getstatic 128, 3) := by decide +kernel
theorem dX8_isOwn_114 : decode cX8_isOwn 114 = .ok (.invokevirtual 94, 3) := by decide +kernel
theorem dX8_isOwn_117 : decode cX8_isOwn 117 = .ok (.ifCond .ne 23, 3) := by decide +kernel
theorem dX8_isOwn_120 : decode cX8_isOwn 120 = .ok (.aload_n 0, 1) := by decide +kernel
theorem dX8_isOwn_121 : decode cX8_isOwn 121 = .ok (.getstatic 131, 3) := by decide +kernel
theorem dX8_isOwn_124 : decode cX8_isOwn 124 = .ok (.invokevirtual 94, 3) := by decide +kernel
theorem dX8_isOwn_127 : decode cX8_isOwn 127 = .ok (.ifCond .ne 13, 3) := by decide +kernel
theorem dX8_isOwn_130 : decode cX8_isOwn 130 = .ok (.aload_n 0, 1) := by decide +kernel
theorem dX8_isOwn_131 : decode cX8_isOwn 131 = .ok (.getstatic 134, 3) := by decide +kernel
theorem dX8_isOwn_134 : decode cX8_isOwn 134 = .ok (.invokevirtual 94, 3) := by decide +kernel
theorem dX8_isOwn_137 : decode cX8_isOwn 137 = .ok (.ifCond .eq 7, 3) := by decide +kernel
theorem dX8_isOwn_140 : decode cX8_isOwn 140 = .ok (.iconst 1, 1) := by decide +kernel
theorem dX8_isOwn_141 : decode cX8_isOwn 141 = .ok (.goto 4, 3) := by decide +kernel
theorem dX8_isOwn_144 : decode cX8_isOwn 144 = .ok (.iconst 0, 1) := by decide +kernel
theorem dX8_isOwn_145 : decode cX8_isOwn 145 = .ok (.ireturn, 1) := by decide +kernel
abbrev rX8_isOwn : Room := { frames := 1, cells := 0, slots := 0, locals := 21 }
theorem cal_X8_isOwn : CalOk yX8_isOwn cX8_isOwn 1 (some .boolean) 0 := ⟨wm_5_219, wm_1_9, by decide, by decide, by decide +kernel⟩
def f_X8_isOwn (p0 : Nat) (M : Mm) : Option (Int32 × Mm) :=
  ck (gK M p0 = 8) (bd (f_X8_is p0 (408622 : Int32) M) fun v2 M1 =>
  (if ¬ v2 = 0 then
    some ((1 : Int32), M1)
  else
    ck (gK M1 p0 = 8) (bd (f_X8_is p0 (2603155 : Int32) M1) fun v4 M3 =>
    (if ¬ v4 = 0 then
      some ((1 : Int32), M3)
    else
      ck (gK M3 p0 = 8) (bd (f_X8_is p0 (16434 : Int32) M3) fun v6 M5 =>
      (if ¬ v6 = 0 then
        some ((1 : Int32), M5)
      else
        ck (gK M5 p0 = 8) (bd (f_X8_is p0 (117096942 : Int32) M5) fun v8 M7 =>
        (if ¬ v8 = 0 then
          some ((1 : Int32), M7)
        else
          ck (gK M7 p0 = 8) (bd (f_X8_is p0 (26379859 : Int32) M7) fun v10 M9 =>
          (if ¬ v10 = 0 then
            some ((1 : Int32), M9)
          else
            ck (gK M9 p0 = 8) (bd (f_X8_is p0 (186542 : Int32) M9) fun v12 M11 =>
            (if ¬ v12 = 0 then
              some ((1 : Int32), M11)
            else
              ck (gK M11 p0 = 8) (bd (f_X8_is p0 (5572 : Int32) M11) fun v14 M13 =>
              (if ¬ v14 = 0 then
                some ((1 : Int32), M13)
              else
                ck (gK M13 p0 = 8) (bd (f_X8_is p0 (632267 : Int32) M13) fun v16 M15 =>
                (if ¬ v16 = 0 then
                  some ((1 : Int32), M15)
                else
                  ck (gK M15 p0 = 8) (bd (f_X8_is p0 (12632677 : Int32) M15) fun v18 M17 =>
                  (if ¬ v18 = 0 then
                    some ((1 : Int32), M17)
                  else
                    ck (gK M17 p0 = 8) (bd (f_X8_is p0 (284561586 : Int32) M17) fun v20 M19 =>
                    (if ¬ v20 = 0 then
                      some ((1 : Int32), M19)
                    else
                      ck (gK M19 p0 = 8) (bd (f_X8_is p0 (99944 : Int32) M19) fun v22 M21 =>
                      (if ¬ v22 = 0 then
                        some ((1 : Int32), M21)
                      else
                        ck (gK M21 p0 = 8) (bd (f_X8_is p0 (8892563 : Int32) M21) fun v24 M23 =>
                        (if ¬ v24 = 0 then
                          some ((1 : Int32), M23)
                        else
                          ck (gK M23 p0 = 8) (bd (f_X8_is p0 (17377093 : Int32) M23) fun v26 M25 =>
                          (if ¬ v26 = 0 then
                            some ((1 : Int32), M25)
                          else
                            ck (gK M25 p0 = 8) (bd (f_X8_is p0 (17376357 : Int32) M25) fun v28 M27 =>
                            (if v28 = 0 then
                              some ((0 : Int32), M27)
                            else
                              some ((1 : Int32), M27)))))))))))))))))))))))))))))
set_option maxRecDepth 20000 in
set_option maxHeartbeats 4000000 in
theorem t_X8_isOwn (p0 : Nat) (M : Mm) (x : Int32) (M' : Mm) (h : f_X8_isOwn p0 M = some (x, M')) : Ctr yX8_isOwn cX8_isOwn 1 (some .boolean) rX8_isOwn (fun _ => [.ref p0]) M (zI x) M' := by
  refine ctr_of (plainFor_of_name (by decide)) (fun _ => Nat.le_of_ble_eq_true rfl) (fun z hz hin hq => ?_)
  have key : Sim z 0 [(0, .ref p0)] [] M 0 0 (f_X8_isOwn p0 M) (fun a b => a = x ∧ b = M') := by
    have hq : Ret z zI (fun a b => a = x ∧ b = M') := fun a b e => by rw [e.1, e.2]; exact hq
    unfold f_X8_isOwn
    refine r_aload_n hz dX8_isOwn_0 0 rfl ?_
    refine r_getS (v := 408622) hz dX8_isOwn_1 (List.mem_of_getElem? (i := 0) rfl) wm_5_194 ?_
    refine r_callVi (As := fun _ => [.int (408622 : Int32)]) cl8 hz (fun _ _ h => t_X8_is _ _ _ _ _ h) cal_X8_is dX8_isOwn_4 wm_5_196 wm_5_198 wm_p_47 rfl rfl (Nat.le_of_ble_eq_true rfl) ⟨(Nat.le_of_ble_eq_true rfl), (Nat.le_of_ble_eq_true rfl)⟩ ⟨(Nat.le_of_ble_eq_true rfl), (Nat.le_of_ble_eq_true rfl)⟩ (fun v2 M1 => ?_)
    refine r_if_ne (tgt := 140) hz dX8_isOwn_7 rfl ?_ ?_
    · refine r_iconst (v := 1) hz dX8_isOwn_140 rfl ?_
      refine r_goto (tgt := 145) hz dX8_isOwn_141 rfl ?_
      exact r_zret hz hq dX8_isOwn_145 (Or.inr rfl) (Nat.le_of_ble_eq_true rfl) (Nat.le_of_ble_eq_true rfl)
    · refine r_aload_n hz dX8_isOwn_10 0 rfl ?_
      refine r_getS (v := 2603155) hz dX8_isOwn_11 (List.mem_of_getElem? (i := 1) rfl) wm_5_220 ?_
      refine r_callVi (As := fun _ => [.int (2603155 : Int32)]) cl8 hz (fun _ _ h => t_X8_is _ _ _ _ _ h) cal_X8_is dX8_isOwn_14 wm_5_196 wm_5_198 wm_p_47 rfl rfl (Nat.le_of_ble_eq_true rfl) ⟨(Nat.le_of_ble_eq_true rfl), (Nat.le_of_ble_eq_true rfl)⟩ ⟨(Nat.le_of_ble_eq_true rfl), (Nat.le_of_ble_eq_true rfl)⟩ (fun v4 M3 => ?_)
      refine r_if_ne (tgt := 140) hz dX8_isOwn_17 rfl ?_ ?_
      · refine r_iconst (v := 1) hz dX8_isOwn_140 rfl ?_
        refine r_goto (tgt := 145) hz dX8_isOwn_141 rfl ?_
        exact r_zret hz hq dX8_isOwn_145 (Or.inr rfl) (Nat.le_of_ble_eq_true rfl) (Nat.le_of_ble_eq_true rfl)
      · refine r_aload_n hz dX8_isOwn_20 0 rfl ?_
        refine r_getS (v := 16434) hz dX8_isOwn_21 (List.mem_of_getElem? (i := 2) rfl) wm_5_222 ?_
        refine r_callVi (As := fun _ => [.int (16434 : Int32)]) cl8 hz (fun _ _ h => t_X8_is _ _ _ _ _ h) cal_X8_is dX8_isOwn_24 wm_5_196 wm_5_198 wm_p_47 rfl rfl (Nat.le_of_ble_eq_true rfl) ⟨(Nat.le_of_ble_eq_true rfl), (Nat.le_of_ble_eq_true rfl)⟩ ⟨(Nat.le_of_ble_eq_true rfl), (Nat.le_of_ble_eq_true rfl)⟩ (fun v6 M5 => ?_)
        refine r_if_ne (tgt := 140) hz dX8_isOwn_27 rfl ?_ ?_
        · refine r_iconst (v := 1) hz dX8_isOwn_140 rfl ?_
          refine r_goto (tgt := 145) hz dX8_isOwn_141 rfl ?_
          exact r_zret hz hq dX8_isOwn_145 (Or.inr rfl) (Nat.le_of_ble_eq_true rfl) (Nat.le_of_ble_eq_true rfl)
        · refine r_aload_n hz dX8_isOwn_30 0 rfl ?_
          refine r_getS (v := 117096942) hz dX8_isOwn_31 (List.mem_of_getElem? (i := 3) rfl) wm_5_224 ?_
          refine r_callVi (As := fun _ => [.int (117096942 : Int32)]) cl8 hz (fun _ _ h => t_X8_is _ _ _ _ _ h) cal_X8_is dX8_isOwn_34 wm_5_196 wm_5_198 wm_p_47 rfl rfl (Nat.le_of_ble_eq_true rfl) ⟨(Nat.le_of_ble_eq_true rfl), (Nat.le_of_ble_eq_true rfl)⟩ ⟨(Nat.le_of_ble_eq_true rfl), (Nat.le_of_ble_eq_true rfl)⟩ (fun v8 M7 => ?_)
          refine r_if_ne (tgt := 140) hz dX8_isOwn_37 rfl ?_ ?_
          · refine r_iconst (v := 1) hz dX8_isOwn_140 rfl ?_
            refine r_goto (tgt := 145) hz dX8_isOwn_141 rfl ?_
            exact r_zret hz hq dX8_isOwn_145 (Or.inr rfl) (Nat.le_of_ble_eq_true rfl) (Nat.le_of_ble_eq_true rfl)
          · refine r_aload_n hz dX8_isOwn_40 0 rfl ?_
            refine r_getS (v := 26379859) hz dX8_isOwn_41 (List.mem_of_getElem? (i := 4) rfl) wm_5_226 ?_
            refine r_callVi (As := fun _ => [.int (26379859 : Int32)]) cl8 hz (fun _ _ h => t_X8_is _ _ _ _ _ h) cal_X8_is dX8_isOwn_44 wm_5_196 wm_5_198 wm_p_47 rfl rfl (Nat.le_of_ble_eq_true rfl) ⟨(Nat.le_of_ble_eq_true rfl), (Nat.le_of_ble_eq_true rfl)⟩ ⟨(Nat.le_of_ble_eq_true rfl), (Nat.le_of_ble_eq_true rfl)⟩ (fun v10 M9 => ?_)
            refine r_if_ne (tgt := 140) hz dX8_isOwn_47 rfl ?_ ?_
            · refine r_iconst (v := 1) hz dX8_isOwn_140 rfl ?_
              refine r_goto (tgt := 145) hz dX8_isOwn_141 rfl ?_
              exact r_zret hz hq dX8_isOwn_145 (Or.inr rfl) (Nat.le_of_ble_eq_true rfl) (Nat.le_of_ble_eq_true rfl)
            · refine r_aload_n hz dX8_isOwn_50 0 rfl ?_
              refine r_getS (v := 186542) hz dX8_isOwn_51 (List.mem_of_getElem? (i := 5) rfl) wm_5_228 ?_
              refine r_callVi (As := fun _ => [.int (186542 : Int32)]) cl8 hz (fun _ _ h => t_X8_is _ _ _ _ _ h) cal_X8_is dX8_isOwn_54 wm_5_196 wm_5_198 wm_p_47 rfl rfl (Nat.le_of_ble_eq_true rfl) ⟨(Nat.le_of_ble_eq_true rfl), (Nat.le_of_ble_eq_true rfl)⟩ ⟨(Nat.le_of_ble_eq_true rfl), (Nat.le_of_ble_eq_true rfl)⟩ (fun v12 M11 => ?_)
              refine r_if_ne (tgt := 140) hz dX8_isOwn_57 rfl ?_ ?_
              · refine r_iconst (v := 1) hz dX8_isOwn_140 rfl ?_
                refine r_goto (tgt := 145) hz dX8_isOwn_141 rfl ?_
                exact r_zret hz hq dX8_isOwn_145 (Or.inr rfl) (Nat.le_of_ble_eq_true rfl) (Nat.le_of_ble_eq_true rfl)
              · refine r_aload_n hz dX8_isOwn_60 0 rfl ?_
                refine r_getS (v := 5572) hz dX8_isOwn_61 (List.mem_of_getElem? (i := 6) rfl) wm_5_230 ?_
                refine r_callVi (As := fun _ => [.int (5572 : Int32)]) cl8 hz (fun _ _ h => t_X8_is _ _ _ _ _ h) cal_X8_is dX8_isOwn_64 wm_5_196 wm_5_198 wm_p_47 rfl rfl (Nat.le_of_ble_eq_true rfl) ⟨(Nat.le_of_ble_eq_true rfl), (Nat.le_of_ble_eq_true rfl)⟩ ⟨(Nat.le_of_ble_eq_true rfl), (Nat.le_of_ble_eq_true rfl)⟩ (fun v14 M13 => ?_)
                refine r_if_ne (tgt := 140) hz dX8_isOwn_67 rfl ?_ ?_
                · refine r_iconst (v := 1) hz dX8_isOwn_140 rfl ?_
                  refine r_goto (tgt := 145) hz dX8_isOwn_141 rfl ?_
                  exact r_zret hz hq dX8_isOwn_145 (Or.inr rfl) (Nat.le_of_ble_eq_true rfl) (Nat.le_of_ble_eq_true rfl)
                · refine r_aload_n hz dX8_isOwn_70 0 rfl ?_
                  refine r_getS (v := 632267) hz dX8_isOwn_71 (List.mem_of_getElem? (i := 7) rfl) wm_5_232 ?_
                  refine r_callVi (As := fun _ => [.int (632267 : Int32)]) cl8 hz (fun _ _ h => t_X8_is _ _ _ _ _ h) cal_X8_is dX8_isOwn_74 wm_5_196 wm_5_198 wm_p_47 rfl rfl (Nat.le_of_ble_eq_true rfl) ⟨(Nat.le_of_ble_eq_true rfl), (Nat.le_of_ble_eq_true rfl)⟩ ⟨(Nat.le_of_ble_eq_true rfl), (Nat.le_of_ble_eq_true rfl)⟩ (fun v16 M15 => ?_)
                  refine r_if_ne (tgt := 140) hz dX8_isOwn_77 rfl ?_ ?_
                  · refine r_iconst (v := 1) hz dX8_isOwn_140 rfl ?_
                    refine r_goto (tgt := 145) hz dX8_isOwn_141 rfl ?_
                    exact r_zret hz hq dX8_isOwn_145 (Or.inr rfl) (Nat.le_of_ble_eq_true rfl) (Nat.le_of_ble_eq_true rfl)
                  · refine r_aload_n hz dX8_isOwn_80 0 rfl ?_
                    refine r_getS (v := 12632677) hz dX8_isOwn_81 (List.mem_of_getElem? (i := 8) rfl) wm_5_234 ?_
                    refine r_callVi (As := fun _ => [.int (12632677 : Int32)]) cl8 hz (fun _ _ h => t_X8_is _ _ _ _ _ h) cal_X8_is dX8_isOwn_84 wm_5_196 wm_5_198 wm_p_47 rfl rfl (Nat.le_of_ble_eq_true rfl) ⟨(Nat.le_of_ble_eq_true rfl), (Nat.le_of_ble_eq_true rfl)⟩ ⟨(Nat.le_of_ble_eq_true rfl), (Nat.le_of_ble_eq_true rfl)⟩ (fun v18 M17 => ?_)
                    refine r_if_ne (tgt := 140) hz dX8_isOwn_87 rfl ?_ ?_
                    · refine r_iconst (v := 1) hz dX8_isOwn_140 rfl ?_
                      refine r_goto (tgt := 145) hz dX8_isOwn_141 rfl ?_
                      exact r_zret hz hq dX8_isOwn_145 (Or.inr rfl) (Nat.le_of_ble_eq_true rfl) (Nat.le_of_ble_eq_true rfl)
                    · refine r_aload_n hz dX8_isOwn_90 0 rfl ?_
                      refine r_getS (v := 284561586) hz dX8_isOwn_91 (List.mem_of_getElem? (i := 9) rfl) wm_5_236 ?_
                      refine r_callVi (As := fun _ => [.int (284561586 : Int32)]) cl8 hz (fun _ _ h => t_X8_is _ _ _ _ _ h) cal_X8_is dX8_isOwn_94 wm_5_196 wm_5_198 wm_p_47 rfl rfl (Nat.le_of_ble_eq_true rfl) ⟨(Nat.le_of_ble_eq_true rfl), (Nat.le_of_ble_eq_true rfl)⟩ ⟨(Nat.le_of_ble_eq_true rfl), (Nat.le_of_ble_eq_true rfl)⟩ (fun v20 M19 => ?_)
                      refine r_if_ne (tgt := 140) hz dX8_isOwn_97 rfl ?_ ?_
                      · refine r_iconst (v := 1) hz dX8_isOwn_140 rfl ?_
                        refine r_goto (tgt := 145) hz dX8_isOwn_141 rfl ?_
                        exact r_zret hz hq dX8_isOwn_145 (Or.inr rfl) (Nat.le_of_ble_eq_true rfl) (Nat.le_of_ble_eq_true rfl)
                      · refine r_aload_n hz dX8_isOwn_100 0 rfl ?_
                        refine r_getS (v := 99944) hz dX8_isOwn_101 (List.mem_of_getElem? (i := 10) rfl) wm_5_238 ?_
                        refine r_callVi (As := fun _ => [.int (99944 : Int32)]) cl8 hz (fun _ _ h => t_X8_is _ _ _ _ _ h) cal_X8_is dX8_isOwn_104 wm_5_196 wm_5_198 wm_p_47 rfl rfl (Nat.le_of_ble_eq_true rfl) ⟨(Nat.le_of_ble_eq_true rfl), (Nat.le_of_ble_eq_true rfl)⟩ ⟨(Nat.le_of_ble_eq_true rfl), (Nat.le_of_ble_eq_true rfl)⟩ (fun v22 M21 => ?_)
                        refine r_if_ne (tgt := 140) hz dX8_isOwn_107 rfl ?_ ?_
                        · refine r_iconst (v := 1) hz dX8_isOwn_140 rfl ?_
                          refine r_goto (tgt := 145) hz dX8_isOwn_141 rfl ?_
                          exact r_zret hz hq dX8_isOwn_145 (Or.inr rfl) (Nat.le_of_ble_eq_true rfl) (Nat.le_of_ble_eq_true rfl)
                        · refine r_aload_n hz dX8_isOwn_110 0 rfl ?_
                          refine r_getS (v := 8892563) hz dX8_isOwn_111 (List.mem_of_getElem? (i := 11) rfl) wm_6_0 ?_
                          refine r_callVi (As := fun _ => [.int (8892563 : Int32)]) cl8 hz (fun _ _ h => t_X8_is _ _ _ _ _ h) cal_X8_is dX8_isOwn_114 wm_5_196 wm_5_198 wm_p_47 rfl rfl (Nat.le_of_ble_eq_true rfl) ⟨(Nat.le_of_ble_eq_true rfl), (Nat.le_of_ble_eq_true rfl)⟩ ⟨(Nat.le_of_ble_eq_true rfl), (Nat.le_of_ble_eq_true rfl)⟩ (fun v24 M23 => ?_)
                          refine r_if_ne (tgt := 140) hz dX8_isOwn_117 rfl ?_ ?_
                          · refine r_iconst (v := 1) hz dX8_isOwn_140 rfl ?_
                            refine r_goto (tgt := 145) hz dX8_isOwn_141 rfl ?_
                            exact r_zret hz hq dX8_isOwn_145 (Or.inr rfl) (Nat.le_of_ble_eq_true rfl) (Nat.le_of_ble_eq_true rfl)
                          · refine r_aload_n hz dX8_isOwn_120 0 rfl ?_
                            refine r_getS (v := 17377093) hz dX8_isOwn_121 (List.mem_of_getElem? (i := 12) rfl) wm_6_2 ?_
                            refine r_callVi (As := fun _ => [.int (17377093 : Int32)]) cl8 hz (fun _ _ h => t_X8_is _ _ _ _ _ h) cal_X8_is dX8_isOwn_124 wm_5_196 wm_5_198 wm_p_47 rfl rfl (Nat.le_of_ble_eq_true rfl) ⟨(Nat.le_of_ble_eq_true rfl), (Nat.le_of_ble_eq_true rfl)⟩ ⟨(Nat.le_of_ble_eq_true rfl), (Nat.le_of_ble_eq_true rfl)⟩ (fun v26 M25 => ?_)
                            refine r_if_ne (tgt := 140) hz dX8_isOwn_127 rfl ?_ ?_
                            · refine r_iconst (v := 1) hz dX8_isOwn_140 rfl ?_
                              refine r_goto (tgt := 145) hz dX8_isOwn_141 rfl ?_
                              exact r_zret hz hq dX8_isOwn_145 (Or.inr rfl) (Nat.le_of_ble_eq_true rfl) (Nat.le_of_ble_eq_true rfl)
                            · refine r_aload_n hz dX8_isOwn_130 0 rfl ?_
                              refine r_getS (v := 17376357) hz dX8_isOwn_131 (List.mem_of_getElem? (i := 13) rfl) wm_6_4 ?_
                              refine r_callVi (As := fun _ => [.int (17376357 : Int32)]) cl8 hz (fun _ _ h => t_X8_is _ _ _ _ _ h) cal_X8_is dX8_isOwn_134 wm_5_196 wm_5_198 wm_p_47 rfl rfl (Nat.le_of_ble_eq_true rfl) ⟨(Nat.le_of_ble_eq_true rfl), (Nat.le_of_ble_eq_true rfl)⟩ ⟨(Nat.le_of_ble_eq_true rfl), (Nat.le_of_ble_eq_true rfl)⟩ (fun v28 M27 => ?_)
                              refine r_if_eq (tgt := 144) hz dX8_isOwn_137 rfl ?_ ?_
                              · refine r_iconst (v := 0) hz dX8_isOwn_144 rfl ?_
                                exact r_zret hz hq dX8_isOwn_145 (Or.inl rfl) (Nat.le_of_ble_eq_true rfl) (Nat.le_of_ble_eq_true rfl)
                              · refine r_iconst (v := 1) hz dX8_isOwn_140 rfl ?_
                                refine r_goto (tgt := 145) hz dX8_isOwn_141 rfl ?_
                                exact r_zret hz hq dX8_isOwn_145 (Or.inr rfl) (Nat.le_of_ble_eq_true rfl) (Nat.le_of_ble_eq_true rfl)
  exact key x M' h ⟨rfl, rfl⟩
theorem dX8_isName_0 : decode cX8_isName 0 = .ok (.aload_n 0, 1) := by decide +kernel
theorem dX8_isName_1 : decode cX8_isName 1 = .ok (.getfield 76, 3) := by decide +kernel
theorem dX8_isName_4 : decode cX8_isName 4 = .ok (.iconst 1, 1) := by decide +kernel
theorem dX8_isName_5 : decode cX8_isName 5 = .ok (.if_icmp .ne 22, 3) := by decide +kernel
theorem dX8_isName_8 : decode cX8_isName 8 = .ok (.aload_n 0, 1) := by decide +kernel
theorem dX8_isName_9 : decode cX8_isName 9 = .ok (.getfield 73, 3) := by decide +kernel
theorem dX8_isName_12 : decode cX8_isName 12 = .ok (.iconst (-1), 1) := by decide +kernel
theorem dX8_isName_13 : decode cX8_isName 13 = .ok (.if_icmp .eq 14, 3) := by decide +kernel
theorem dX8_isName_16 : decode cX8_isName 16 = .ok (.aload_n 0, 1) := by decide +kernel
theorem dX8_isName_17 : decode cX8_isName 17 = .ok (.invokevirtual 137, 3) := by decide +kernel
theorem dX8_isName_20 : decode cX8_isName 20 = .ok (.ifCond .ne 7, 3) := by decide +kernel
theorem dX8_isName_23 : decode cX8_isName 23 = .ok (.iconst 1, 1) := by decide +kernel
theorem dX8_isName_24 : decode cX8_isName 24 = .ok (.goto 4, 3) := by decide +kernel
theorem dX8_isName_27 : decode cX8_isName 27 = .ok (.iconst 0, 1) := by decide +kernel
theorem dX8_isName_28 : decode cX8_isName 28 = .ok (.ireturn, 1) := by decide +kernel
abbrev rX8_isName : Room := { frames := 2, cells := 0, slots := 0, locals := 41 }
theorem cal_X8_isName : CalOk yX8_isName cX8_isName 1 (some .boolean) 0 := ⟨wm_5_215, wm_1_9, by decide, by decide, by decide +kernel⟩
def f_X8_isName (p0 : Nat) (M : Mm) : Option (Int32 × Mm) :=
  ck (gK M p0 = 8) ((if ¬ (gI M p0 6) = (1 : Int32) then
    some ((0 : Int32), M)
  else
    ck (gK M p0 = 8) ((if (gI M p0 8) = (-1 : Int32) then
      some ((0 : Int32), M)
    else
      ck (gK M p0 = 8) (bd (f_X8_isOwn p0 M) fun v2 M1 =>
      (if ¬ v2 = 0 then
        some ((0 : Int32), M1)
      else
        some ((1 : Int32), M1)))))))
set_option maxRecDepth 20000 in
set_option maxHeartbeats 4000000 in
theorem t_X8_isName (p0 : Nat) (M : Mm) (x : Int32) (M' : Mm) (h : f_X8_isName p0 M = some (x, M')) : Ctr yX8_isName cX8_isName 1 (some .boolean) rX8_isName (fun _ => [.ref p0]) M (zI x) M' := by
  refine ctr_of (plainFor_of_name (by decide)) (fun _ => Nat.le_of_ble_eq_true rfl) (fun z hz hin hq => ?_)
  have key : Sim z 0 [(0, .ref p0)] [] M 0 0 (f_X8_isName p0 M) (fun a b => a = x ∧ b = M') := by
    have hq : Ret z zI (fun a b => a = x ∧ b = M') := fun a b e => by rw [e.1, e.2]; exact hq
    unfold f_X8_isName
    refine r_aload_n hz dX8_isName_0 0 rfl ?_
    refine r_getI (j := 6) cl8 hz dX8_isName_1 (by decide) wm_5_62 rfl ?_
    refine r_iconst (v := 1) hz dX8_isName_4 rfl ?_
    refine r_icmp_ne (tgt := 27) hz dX8_isName_5 rfl ?_ ?_
    · refine r_iconst (v := 0) hz dX8_isName_27 rfl ?_
      exact r_zret hz hq dX8_isName_28 (Or.inl rfl) (Nat.le_of_ble_eq_true rfl) (Nat.le_of_ble_eq_true rfl)
    · refine r_aload_n hz dX8_isName_8 0 rfl ?_
      refine r_getI (j := 8) cl8 hz dX8_isName_9 (by decide) wm_5_64 rfl ?_
      refine r_iconst (v := -1) hz dX8_isName_12 rfl ?_
      refine r_icmp_eq (tgt := 27) hz dX8_isName_13 rfl ?_ ?_
      · refine r_iconst (v := 0) hz dX8_isName_27 rfl ?_
        exact r_zret hz hq dX8_isName_28 (Or.inl rfl) (Nat.le_of_ble_eq_true rfl) (Nat.le_of_ble_eq_true rfl)
      · refine r_aload_n hz dX8_isName_16 0 rfl ?_
        refine r_callVi (As := fun _ => []) cl8 hz (fun _ _ h => t_X8_isOwn _ _ _ _ h) cal_X8_isOwn dX8_isName_17 wm_5_216 wm_5_218 wm_p_52 rfl rfl (Nat.le_of_ble_eq_true rfl) ⟨(Nat.le_of_ble_eq_true rfl), (Nat.le_of_ble_eq_true rfl)⟩ ⟨(Nat.le_of_ble_eq_true rfl), (Nat.le_of_ble_eq_true rfl)⟩ (fun v2 M1 => ?_)
        refine r_if_ne (tgt := 27) hz dX8_isName_20 rfl ?_ ?_
        · refine r_iconst (v := 0) hz dX8_isName_27 rfl ?_
          exact r_zret hz hq dX8_isName_28 (Or.inl rfl) (Nat.le_of_ble_eq_true rfl) (Nat.le_of_ble_eq_true rfl)
        · refine r_iconst (v := 1) hz dX8_isName_23 rfl ?_
          refine r_goto (tgt := 28) hz dX8_isName_24 rfl ?_
          exact r_zret hz hq dX8_isName_28 (Or.inr rfl) (Nat.le_of_ble_eq_true rfl) (Nat.le_of_ble_eq_true rfl)
  exact key x M' h ⟨rfl, rfl⟩
theorem dX8_bad_0 : decode cX8_bad 0 = .ok (.aload_n 0, 1) := by decide +kernel
theorem dX8_bad_1 : decode cX8_bad 1 = .ok (.aload_n 0, 1) := by decide +kernel
theorem dX8_bad_2 : decode cX8_bad 2 = .ok (.getfield 141, 3) := by decide +kernel
theorem dX8_bad_5 : decode cX8_bad 5 = .ok (.ifCond .ne 15, 3) := by decide +kernel
theorem dX8_bad_8 : decode cX8_bad 8 = .ok (.bipush 8, 2) := by decide +kernel
theorem dX8_bad_10 : decode cX8_bad 10 = .ok (.aload_n 0, 1) := by decide +kernel
theorem dX8_bad_11 : decode cX8_bad 11 = .ok (.getfield 67, 3) := by decide +kernel
theorem dX8_bad_14 : decode cX8_bad 14 = .ok (.imul, 1) := by decide +kernel
theorem dX8_bad_15 : decode cX8_bad 15 = .ok (.iload_n 1, 1) := by decide +kernel
theorem dX8_bad_16 : decode cX8_bad 16 = .ok (.iadd, 1) := by decide +kernel
theorem dX8_bad_17 : decode cX8_bad 17 = .ok (.goto 7, 3) := by decide +kernel
theorem dX8_bad_20 : decode cX8_bad 20 = .ok (.aload_n 0, 1) := by decide +kernel
theorem dX8_bad_21 : decode cX8_bad 21 = .ok (.getfield 141, 3) := by decide +kernel
theorem dX8_bad_24 : decode cX8_bad 24 = .ok (.putfield 141, 3) := by decide +kernel
theorem dX8_bad_27 : decode cX8_bad 27 = .ok (.iconst 0, 1) := by decide +kernel
theorem dX8_bad_28 : decode cX8_bad 28 = .ok (.ireturn, 1) := by decide +kernel
abbrev rX8_bad : Room := { frames := 0, cells := 0, slots := 0, locals := 0 }
theorem cal_X8_bad : CalOk yX8_bad cX8_bad 2 (some .boolean) 1 := ⟨wm_5_207, wm_1_9, by decide, by decide, by decide +kernel⟩
def f_X8_bad (p0 : Nat) (p1 : Int32) (M : Mm) : Option (Int32 × Mm) :=
  ck (gK M p0 = 8) ((if ¬ (gI M p0 9) = 0 then
    ck (gK M p0 = 8) (ck (gK M p0 = 8) (nm (sI M p0 9 (gI M p0 9)) fun M1 =>
    some ((0 : Int32), M1)))
  else
    ck (gK M p0 = 8) (ck (gK M p0 = 8) (nm (sI M p0 9 (((8 : Int32) * (gI M p0 4)) + p1)) fun M2 =>
    some ((0 : Int32), M2)))))
set_option maxRecDepth 20000 in
set_option maxHeartbeats 4000000 in
theorem t_X8_bad (p0 : Nat) (p1 : Int32) (M : Mm) (x : Int32) (M' : Mm) (h : f_X8_bad p0 p1 M = some (x, M')) : Ctr yX8_bad cX8_bad 2 (some .boolean) rX8_bad (fun _ => [.ref p0, .int p1]) M (zI x) M' := by
  refine ctr_of (plainFor_of_name (by decide)) (fun _ => Nat.le_of_ble_eq_true rfl) (fun z hz hin hq => ?_)
  have key : Sim z 0 [(0, .ref p0), (1, .int p1)] [] M 0 0 (f_X8_bad p0 p1 M) (fun a b => a = x ∧ b = M') := by
    have hq : Ret z zI (fun a b => a = x ∧ b = M') := fun a b e => by rw [e.1, e.2]; exact hq
    unfold f_X8_bad
    refine r_aload_n hz dX8_bad_0 0 rfl ?_
    refine r_aload_n hz dX8_bad_1 0 rfl ?_
    refine r_getI (j := 9) cl8 hz dX8_bad_2 (by decide) wm_5_65 rfl ?_
    refine r_if_ne (tgt := 20) hz dX8_bad_5 rfl ?_ ?_
    · refine r_aload_n hz dX8_bad_20 0 rfl ?_
      refine r_getI (j := 9) cl8 hz dX8_bad_21 (by decide) wm_5_65 rfl ?_
      refine r_putI (j := 9) cl8 hz dX8_bad_24 (by decide) wm_5_65 (Or.inl rfl) rfl rfl rfl ?_
      refine r_nmM (fun M1 => ?_)
      refine r_iconst (v := 0) hz dX8_bad_27 rfl ?_
      exact r_zret hz hq dX8_bad_28 (Or.inl rfl) (Nat.le_of_ble_eq_true rfl) (Nat.le_of_ble_eq_true rfl)
    · refine r_bipush (v := 8) hz dX8_bad_8 rfl ?_
      refine r_aload_n hz dX8_bad_10 0 rfl ?_
      refine r_getI (j := 4) cl8 hz dX8_bad_11 (by decide) wm_5_60 rfl ?_
      refine r_imul hz dX8_bad_14 ?_
      refine r_iload_n hz dX8_bad_15 1 rfl ?_
      refine r_iadd hz dX8_bad_16 ?_
      refine r_goto (tgt := 24) hz dX8_bad_17 rfl ?_
      refine r_putI (j := 9) cl8 hz dX8_bad_24 (by decide) wm_5_65 (Or.inl rfl) rfl rfl rfl ?_
      refine r_nmM (fun M2 => ?_)
      refine r_iconst (v := 0) hz dX8_bad_27 rfl ?_
      exact r_zret hz hq dX8_bad_28 (Or.inl rfl) (Nat.le_of_ble_eq_true rfl) (Nat.le_of_ble_eq_true rfl)
  exact key x M' h ⟨rfl, rfl⟩
theorem dX8_takes_0 : decode cX8_takes 0 = .ok (.aload_n 0, 1) := by decide +kernel
theorem dX8_takes_1 : decode cX8_takes 1 = .ok (.iload_n 1, 1) := by decide +kernel
theorem dX8_takes_2 : decode cX8_takes 2 = .ok (.invokevirtual 94, 3) := by decide +kernel
theorem dX8_takes_5 : decode cX8_takes 5 = .ok (.ifCond .ne 9, 3) := by decide +kernel
theorem dX8_takes_8 : decode cX8_takes 8 = .ok (.aload_n 0, 1) := by decide +kernel
theorem dX8_takes_9 : decode cX8_takes 9 = .ok (.iconst 1, 1) := by decide +kernel
theorem dX8_takes_10 : decode cX8_takes 10 = .ok (.invokevirtual 144, 3) := by decide +kernel
theorem dX8_takes_13 : decode cX8_takes 13 = .ok (.ireturn, 1) := by decide +kernel
theorem dX8_takes_14 : decode cX8_takes 14 = .ok (.aload_n 0, 1) := by decide +kernel
theorem dX8_takes_15 : decode cX8_takes 15 = .ok (.invokevirtual 147, 3) := by decide +kernel
theorem dX8_takes_18 : decode cX8_takes 18 = .ok (.iconst 1, 1) := by decide +kernel
theorem dX8_takes_19 : decode cX8_takes 19 = .ok (.ireturn, 1) := by decide +kernel
abbrev rX8_takes : Room := { frames := 2, cells := 0, slots := 0, locals := 46 }
theorem cal_X8_takes : CalOk yX8_takes cX8_takes 2 (some .boolean) 1 := ⟨wm_6_17, wm_1_9, by decide, by decide, by decide +kernel⟩
def f_X8_takes (p0 : Nat) (p1 : Int32) (M : Mm) : Option (Int32 × Mm) :=
  ck (gK M p0 = 8) (bd (f_X8_is p0 p1 M) fun v2 M1 =>
  (if ¬ v2 = 0 then
    ck (gK M1 p0 = 8) (bd (f_X8_go p0 M1) fun _ M3 =>
    some ((1 : Int32), M3))
  else
    ck (gK M1 p0 = 8) (bd (f_X8_bad p0 (1 : Int32) M1) fun v5 M4 =>
    ck (v5 = 0 ∨ v5 = 1) (some (v5, M4)))))
set_option maxRecDepth 20000 in
set_option maxHeartbeats 4000000 in
theorem t_X8_takes (p0 : Nat) (p1 : Int32) (M : Mm) (x : Int32) (M' : Mm) (h : f_X8_takes p0 p1 M = some (x, M')) : Ctr yX8_takes cX8_takes 2 (some .boolean) rX8_takes (fun _ => [.ref p0, .int p1]) M (zI x) M' := by
  refine ctr_of (plainFor_of_name (by decide)) (fun _ => Nat.le_of_ble_eq_true rfl) (fun z hz hin hq => ?_)
  have key : Sim z 0 [(0, .ref p0), (1, .int p1)] [] M 0 0 (f_X8_takes p0 p1 M) (fun a b => a = x ∧ b = M') := by
    have hq : Ret z zI (fun a b => a = x ∧ b = M') := fun a b e => by rw [e.1, e.2]; exact hq
    unfold f_X8_takes
    refine r_aload_n hz dX8_takes_0 0 rfl ?_
    refine r_iload_n hz dX8_takes_1 1 rfl ?_
    refine r_callVi (As := fun _ => [.int p1]) cl8 hz (fun _ _ h => t_X8_is _ _ _ _ _ h) cal_X8_is dX8_takes_2 wm_5_196 wm_5_198 wm_p_47 rfl rfl (Nat.le_of_ble_eq_true rfl) ⟨(Nat.le_of_ble_eq_true rfl), (Nat.le_of_ble_eq_true rfl)⟩ ⟨(Nat.le_of_ble_eq_true rfl), (Nat.le_of_ble_eq_true rfl)⟩ (fun v2 M1 => ?_)
    refine r_if_ne (tgt := 14) hz dX8_takes_5 rfl ?_ ?_
    · refine r_aload_n hz dX8_takes_14 0 rfl ?_
      refine r_callVv (As := fun _ => []) cl8 hz (fun _ _ h => t_X8_go _ _ _ _ h) cal_X8_go dX8_takes_15 wm_5_178 wm_5_180 wm_p_44 rfl rfl (Nat.le_of_ble_eq_true rfl) ⟨(Nat.le_of_ble_eq_true rfl), (Nat.le_of_ble_eq_true rfl)⟩ ⟨(Nat.le_of_ble_eq_true rfl), (Nat.le_of_ble_eq_true rfl)⟩ (fun _ M3 => ?_)
      refine r_iconst (v := 1) hz dX8_takes_18 rfl ?_
      exact r_zret hz hq dX8_takes_19 (Or.inr rfl) (Nat.le_of_ble_eq_true rfl) (Nat.le_of_ble_eq_true rfl)
    · refine r_aload_n hz dX8_takes_8 0 rfl ?_
      refine r_iconst (v := 1) hz dX8_takes_9 rfl ?_
      refine r_callVi (As := fun _ => [.int (1 : Int32)]) cl8 hz (fun _ _ h => t_X8_bad _ _ _ _ _ h) cal_X8_bad dX8_takes_10 wm_5_204 wm_5_206 wm_p_49 rfl rfl (Nat.le_of_ble_eq_true rfl) ⟨(Nat.le_of_ble_eq_true rfl), (Nat.le_of_ble_eq_true rfl)⟩ ⟨(Nat.le_of_ble_eq_true rfl), (Nat.le_of_ble_eq_true rfl)⟩ (fun v5 M4 => ?_)
      refine r_ck (fun h6 => ?_)
      exact r_zret hz hq dX8_takes_13 h6 (Nat.le_of_ble_eq_true rfl) (Nat.le_of_ble_eq_true rfl)
  exact key x M' h ⟨rfl, rfl⟩
theorem dX8_numberAt_0 : decode cX8_numberAt 0 = .ok (.aload_n 0, 1) := by decide +kernel
theorem dX8_numberAt_1 : decode cX8_numberAt 1 = .ok (.getfield 76, 3) := by decide +kernel
theorem dX8_numberAt_4 : decode cX8_numberAt 4 = .ok (.iconst 2, 1) := by decide +kernel
theorem dX8_numberAt_5 : decode cX8_numberAt 5 = .ok (.if_icmp .eq 9, 3) := by decide +kernel
theorem dX8_numberAt_8 : decode cX8_numberAt 8 = .ok (.aload_n 0, 1) := by decide +kernel
theorem dX8_numberAt_9 : decode cX8_numberAt 9 = .ok (.iconst 1, 1) := by decide +kernel
theorem dX8_numberAt_10 : decode cX8_numberAt 10 = .ok (.invokevirtual 144, 3) := by decide +kernel
theorem dX8_numberAt_13 : decode cX8_numberAt 13 = .ok (.ireturn, 1) := by decide +kernel
theorem dX8_numberAt_14 : decode cX8_numberAt 14 = .ok (.aload_n 0, 1) := by decide +kernel
theorem dX8_numberAt_15 : decode cX8_numberAt 15 = .ok (.getfield 70, 3) := by decide +kernel
theorem dX8_numberAt_18 : decode cX8_numberAt 18 = .ok (.i2l, 1) := by decide +kernel
theorem dX8_numberAt_19 : decode cX8_numberAt 19 = .ok (.iload_n 1, 1) := by decide +kernel
theorem dX8_numberAt_20 : decode cX8_numberAt 20 = .ok (.i2l, 1) := by decide +kernel
theorem dX8_numberAt_21 : decode cX8_numberAt 21 = .ok (.iload_n 2, 1) := by decide +kernel
theorem dX8_numberAt_22 : decode cX8_numberAt 22 = .ok (.i2l, 1) := by decide +kernel
theorem dX8_numberAt_23 : decode cX8_numberAt 23 = .ok (.invokestatic 83, 3) := by decide +kernel
theorem dX8_numberAt_26 : decode cX8_numberAt 26 = .ok (.ifCond .ne 11, 3) := by decide +kernel
theorem dX8_numberAt_29 : decode cX8_numberAt 29 = .ok (.aload_n 0, 1) := by decide +kernel
theorem dX8_numberAt_30 : decode cX8_numberAt 30 = .ok (.iconst 4, 1) := by decide +kernel
theorem dX8_numberAt_31 : decode cX8_numberAt 31 = .ok (.invokevirtual 144, 3) := by decide +kernel
theorem dX8_numberAt_34 : decode cX8_numberAt 34 = .ok (.ifCond .eq 7, 3) := by decide +kernel
theorem dX8_numberAt_37 : decode cX8_numberAt 37 = .ok (.iconst 1, 1) := by decide +kernel
theorem dX8_numberAt_38 : decode cX8_numberAt 38 = .ok (.goto 4, 3) := by decide +kernel
theorem dX8_numberAt_41 : decode cX8_numberAt 41 = .ok (.iconst 0, 1) := by decide +kernel
theorem dX8_numberAt_42 : decode cX8_numberAt 42 = .ok (.ireturn, 1) := by decide +kernel
abbrev rX8_numberAt : Room := { frames := 1, cells := 0, slots := 0, locals := 25 }
theorem cal_X8_numberAt : CalOk yX8_numberAt cX8_numberAt 3 (some .boolean) 2 := ⟨wm_6_25, wm_1_9, by decide, by decide, by decide +kernel⟩
def f_X8_numberAt (p0 : Nat) (p1 : Int32) (p2 : Int32) (M : Mm) : Option (Int32 × Mm) :=
  ck (gK M p0 = 8) ((if (gI M p0 6) = (2 : Int32) then
    ck (gK M p0 = 8) (bd (f_X8_within ((gI M p0 7)).toInt64 (p1).toInt64 (p2).toInt64 M) fun v2 M1 =>
    (if ¬ v2 = 0 then
      some ((1 : Int32), M1)
    else
      ck (gK M1 p0 = 8) (bd (f_X8_bad p0 (4 : Int32) M1) fun v4 M3 =>
      (if v4 = 0 then
        some ((0 : Int32), M3)
      else
        some ((1 : Int32), M3)))))
  else
    ck (gK M p0 = 8) (bd (f_X8_bad p0 (1 : Int32) M) fun v6 M5 =>
    ck (v6 = 0 ∨ v6 = 1) (some (v6, M5)))))
set_option maxRecDepth 20000 in
set_option maxHeartbeats 4000000 in
theorem t_X8_numberAt (p0 : Nat) (p1 : Int32) (p2 : Int32) (M : Mm) (x : Int32) (M' : Mm) (h : f_X8_numberAt p0 p1 p2 M = some (x, M')) : Ctr yX8_numberAt cX8_numberAt 3 (some .boolean) rX8_numberAt (fun _ => [.ref p0, .int p1, .int p2]) M (zI x) M' := by
  refine ctr_of (plainFor_of_name (by decide)) (fun _ => Nat.le_of_ble_eq_true rfl) (fun z hz hin hq => ?_)
  have key : Sim z 0 [(0, .ref p0), (1, .int p1), (2, .int p2)] [] M 0 0 (f_X8_numberAt p0 p1 p2 M) (fun a b => a = x ∧ b = M') := by
    have hq : Ret z zI (fun a b => a = x ∧ b = M') := fun a b e => by rw [e.1, e.2]; exact hq
    unfold f_X8_numberAt
    refine r_aload_n hz dX8_numberAt_0 0 rfl ?_
    refine r_getI (j := 6) cl8 hz dX8_numberAt_1 (by decide) wm_5_62 rfl ?_
    refine r_iconst (v := 2) hz dX8_numberAt_4 rfl ?_
    refine r_icmp_eq (tgt := 14) hz dX8_numberAt_5 rfl ?_ ?_
    · refine r_aload_n hz dX8_numberAt_14 0 rfl ?_
      refine r_getI (j := 7) cl8 hz dX8_numberAt_15 (by decide) wm_5_63 rfl ?_
      refine r_i2l hz dX8_numberAt_18 ?_
      refine r_iload_n hz dX8_numberAt_19 1 rfl ?_
      refine r_i2l hz dX8_numberAt_20 ?_
      refine r_iload_n hz dX8_numberAt_21 2 rfl ?_
      refine r_i2l hz dX8_numberAt_22 ?_
      refine r_callSi (As := fun _ => [.long ((gI M p0 7)).toInt64, .long (p1).toInt64, .long (p2).toInt64]) hz (fun _ _ h => t_X8_within _ _ _ _ _ _ h) cal_X8_within dX8_numberAt_23 wm_5_175 wm_5_176 rfl rfl (Nat.le_of_ble_eq_true rfl) ⟨(Nat.le_of_ble_eq_true rfl), (Nat.le_of_ble_eq_true rfl)⟩ ⟨(Nat.le_of_ble_eq_true rfl), (Nat.le_of_ble_eq_true rfl)⟩ (fun v2 M1 => ?_)
      refine r_if_ne (tgt := 37) hz dX8_numberAt_26 rfl ?_ ?_
      · refine r_iconst (v := 1) hz dX8_numberAt_37 rfl ?_
        refine r_goto (tgt := 42) hz dX8_numberAt_38 rfl ?_
        exact r_zret hz hq dX8_numberAt_42 (Or.inr rfl) (Nat.le_of_ble_eq_true rfl) (Nat.le_of_ble_eq_true rfl)
      · refine r_aload_n hz dX8_numberAt_29 0 rfl ?_
        refine r_iconst (v := 4) hz dX8_numberAt_30 rfl ?_
        refine r_callVi (As := fun _ => [.int (4 : Int32)]) cl8 hz (fun _ _ h => t_X8_bad _ _ _ _ _ h) cal_X8_bad dX8_numberAt_31 wm_5_204 wm_5_206 wm_p_49 rfl rfl (Nat.le_of_ble_eq_true rfl) ⟨(Nat.le_of_ble_eq_true rfl), (Nat.le_of_ble_eq_true rfl)⟩ ⟨(Nat.le_of_ble_eq_true rfl), (Nat.le_of_ble_eq_true rfl)⟩ (fun v4 M3 => ?_)
        refine r_if_eq (tgt := 41) hz dX8_numberAt_34 rfl ?_ ?_
        · refine r_iconst (v := 0) hz dX8_numberAt_41 rfl ?_
          exact r_zret hz hq dX8_numberAt_42 (Or.inl rfl) (Nat.le_of_ble_eq_true rfl) (Nat.le_of_ble_eq_true rfl)
        · refine r_iconst (v := 1) hz dX8_numberAt_37 rfl ?_
          refine r_goto (tgt := 42) hz dX8_numberAt_38 rfl ?_
          exact r_zret hz hq dX8_numberAt_42 (Or.inr rfl) (Nat.le_of_ble_eq_true rfl) (Nat.le_of_ble_eq_true rfl)
    · refine r_aload_n hz dX8_numberAt_8 0 rfl ?_
      refine r_iconst (v := 1) hz dX8_numberAt_9 rfl ?_
      refine r_callVi (As := fun _ => [.int (1 : Int32)]) cl8 hz (fun _ _ h => t_X8_bad _ _ _ _ _ h) cal_X8_bad dX8_numberAt_10 wm_5_204 wm_5_206 wm_p_49 rfl rfl (Nat.le_of_ble_eq_true rfl) ⟨(Nat.le_of_ble_eq_true rfl), (Nat.le_of_ble_eq_true rfl)⟩ ⟨(Nat.le_of_ble_eq_true rfl), (Nat.le_of_ble_eq_true rfl)⟩ (fun v6 M5 => ?_)
      refine r_ck (fun h7 => ?_)
      exact r_zret hz hq dX8_numberAt_13 h7 (Nat.le_of_ble_eq_true rfl) (Nat.le_of_ble_eq_true rfl)
  exact key x M' h ⟨rfl, rfl⟩
theorem dX8_number_0 : decode cX8_number 0 = .ok (.aload_n 0, 1) := by decide +kernel
theorem dX8_number_1 : decode cX8_number 1 = .ok (.iload_n 1, 1) := by decide +kernel
theorem dX8_number_2 : decode cX8_number 2 = .ok (.iload_n 2, 1) := by decide +kernel
theorem dX8_number_3 : decode cX8_number 3 = .ok (.invokevirtual 150, 3) := by decide +kernel
theorem dX8_number_6 : decode cX8_number 6 = .ok (.ifCond .ne 5, 3) := by decide +kernel
theorem dX8_number_9 : decode cX8_number 9 = .ok (.iconst 0, 1) := by decide +kernel
theorem dX8_number_10 : decode cX8_number 10 = .ok (.ireturn, 1) := by decide +kernel
theorem dX8_number_11 : decode cX8_number 11 = .ok (.aload_n 0, 1) := by decide +kernel
theorem dX8_number_12 : decode cX8_number 12 = .ok (.aload_n 0, 1) := by decide +kernel
theorem dX8_number_13 : decode cX8_number 13 = .ok (.getfield 70, 3) := by decide +kernel
theorem dX8_number_16 : decode cX8_number 16 = .ok (.putfield 154, 3) := by decide +kernel
theorem dX8_number_19 : decode cX8_number 19 = .ok (.aload_n 0, 1) := by decide +kernel
theorem dX8_number_20 : decode cX8_number 20 = .ok (.invokevirtual 147, 3) := by decide +kernel
theorem dX8_number_23 : decode cX8_number 23 = .ok (.iconst 1, 1) := by decide +kernel
theorem dX8_number_24 : decode cX8_number 24 = .ok (.ireturn, 1) := by decide +kernel
abbrev rX8_number : Room := { frames := 2, cells := 0, slots := 0, locals := 47 }
theorem cal_X8_number : CalOk yX8_number cX8_number 3 (some .boolean) 2 := ⟨wm_6_21, wm_1_9, by decide, by decide, by decide +kernel⟩
def f_X8_number (p0 : Nat) (p1 : Int32) (p2 : Int32) (M : Mm) : Option (Int32 × Mm) :=
  ck (gK M p0 = 8) (bd (f_X8_numberAt p0 p1 p2 M) fun v2 M1 =>
  (if ¬ v2 = 0 then
    ck (gK M1 p0 = 8) (ck (gK M1 p0 = 8) (nm (sI M1 p0 10 (gI M1 p0 7)) fun M3 =>
    ck (gK M3 p0 = 8) (bd (f_X8_go p0 M3) fun _ M4 =>
    some ((1 : Int32), M4))))
  else
    some ((0 : Int32), M1)))
set_option maxRecDepth 20000 in
set_option maxHeartbeats 4000000 in
theorem t_X8_number (p0 : Nat) (p1 : Int32) (p2 : Int32) (M : Mm) (x : Int32) (M' : Mm) (h : f_X8_number p0 p1 p2 M = some (x, M')) : Ctr yX8_number cX8_number 3 (some .boolean) rX8_number (fun _ => [.ref p0, .int p1, .int p2]) M (zI x) M' := by
  refine ctr_of (plainFor_of_name (by decide)) (fun _ => Nat.le_of_ble_eq_true rfl) (fun z hz hin hq => ?_)
  have key : Sim z 0 [(0, .ref p0), (1, .int p1), (2, .int p2)] [] M 0 0 (f_X8_number p0 p1 p2 M) (fun a b => a = x ∧ b = M') := by
    have hq : Ret z zI (fun a b => a = x ∧ b = M') := fun a b e => by rw [e.1, e.2]; exact hq
    unfold f_X8_number
    refine r_aload_n hz dX8_number_0 0 rfl ?_
    refine r_iload_n hz dX8_number_1 1 rfl ?_
    refine r_iload_n hz dX8_number_2 2 rfl ?_
    refine r_callVi (As := fun _ => [.int p1, .int p2]) cl8 hz (fun _ _ h => t_X8_numberAt _ _ _ _ _ _ h) cal_X8_numberAt dX8_number_3 wm_6_22 wm_6_24 wm_p_57 rfl rfl (Nat.le_of_ble_eq_true rfl) ⟨(Nat.le_of_ble_eq_true rfl), (Nat.le_of_ble_eq_true rfl)⟩ ⟨(Nat.le_of_ble_eq_true rfl), (Nat.le_of_ble_eq_true rfl)⟩ (fun v2 M1 => ?_)
    refine r_if_ne (tgt := 11) hz dX8_number_6 rfl ?_ ?_
    · refine r_aload_n hz dX8_number_11 0 rfl ?_
      refine r_aload_n hz dX8_number_12 0 rfl ?_
      refine r_getI (j := 7) cl8 hz dX8_number_13 (by decide) wm_5_63 rfl ?_
      refine r_putI (j := 10) cl8 hz dX8_number_16 (by decide) wm_5_66 (Or.inl rfl) rfl rfl rfl ?_
      refine r_nmM (fun M3 => ?_)
      refine r_aload_n hz dX8_number_19 0 rfl ?_
      refine r_callVv (As := fun _ => []) cl8 hz (fun _ _ h => t_X8_go _ _ _ _ h) cal_X8_go dX8_number_20 wm_5_178 wm_5_180 wm_p_44 rfl rfl (Nat.le_of_ble_eq_true rfl) ⟨(Nat.le_of_ble_eq_true rfl), (Nat.le_of_ble_eq_true rfl)⟩ ⟨(Nat.le_of_ble_eq_true rfl), (Nat.le_of_ble_eq_true rfl)⟩ (fun _ M4 => ?_)
      refine r_iconst (v := 1) hz dX8_number_23 rfl ?_
      exact r_zret hz hq dX8_number_24 (Or.inr rfl) (Nat.le_of_ble_eq_true rfl) (Nat.le_of_ble_eq_true rfl)
    · refine r_iconst (v := 0) hz dX8_number_9 rfl ?_
      exact r_zret hz hq dX8_number_10 (Or.inl rfl) (Nat.le_of_ble_eq_true rfl) (Nat.le_of_ble_eq_true rfl)
  exact key x M' h ⟨rfl, rfl⟩
theorem dX8_copies_0 : decode cX8_copies 0 = .ok (.iconst 0, 1) := by decide +kernel
theorem dX8_copies_1 : decode cX8_copies 1 = .ok (.istore 4, 2) := by decide +kernel
theorem dX8_copies_3 : decode cX8_copies 3 = .ok (.iload 4, 2) := by decide +kernel
theorem dX8_copies_5 : decode cX8_copies 5 = .ok (.sipush 1407, 3) := by decide +kernel
theorem dX8_copies_8 : decode cX8_copies 8 = .ok (.if_icmp .ge 21, 3) := by decide +kernel
theorem dX8_copies_11 : decode cX8_copies 11 = .ok (.aload_n 2, 1) := by decide +kernel
theorem dX8_copies_12 : decode cX8_copies 12 = .ok (.iload_n 3, 1) := by decide +kernel
theorem dX8_copies_13 : decode cX8_copies 13 = .ok (.iload 4, 2) := by decide +kernel
theorem dX8_copies_15 : decode cX8_copies 15 = .ok (.iadd, 1) := by decide +kernel
theorem dX8_copies_16 : decode cX8_copies 16 = .ok (.aload_n 0, 1) := by decide +kernel
theorem dX8_copies_17 : decode cX8_copies 17 = .ok (.iload_n 1, 1) := by decide +kernel
theorem dX8_copies_18 : decode cX8_copies 18 = .ok (.iload 4, 2) := by decide +kernel
theorem dX8_copies_20 : decode cX8_copies 20 = .ok (.iadd, 1) := by decide +kernel
theorem dX8_copies_21 : decode cX8_copies 21 = .ok (.iaload, 1) := by decide +kernel
theorem dX8_copies_22 : decode cX8_copies 22 = .ok (.iastore, 1) := by decide +kernel
theorem dX8_copies_23 : decode cX8_copies 23 = .ok (.iinc 4 1, 3) := by decide +kernel
theorem dX8_copies_26 : decode cX8_copies 26 = .ok (.goto (-23), 3) := by decide +kernel
theorem dX8_copies_29 : decode cX8_copies 29 = .ok (.return_, 1) := by decide +kernel
abbrev rX8_copies : Room := { frames := 0, cells := 0, slots := 0, locals := 0 }
theorem cal_X8_copies : CalOk yX8_copies cX8_copies 5 none 4 := ⟨wm_6_53, wm_1_9, by decide, by decide, by decide +kernel⟩
def f_X8_copies_3 : Nat → Nat → Int32 → Nat → Int32 → Int32 → Mm → Option (Unit × Mm)
  | 0, _, _, _, _, _, _ => none
  | n + 1, x0, x1, x2, x3, x4, M =>
    (if (1407 : Int32) ≤ x4 then
      some ((), M)
    else
      ck (gK M x0 = 10 ∧ inb (x1 + x4) (gN M x0)) (ck (gK M x2 = 10 ∧ inb (x3 + x4) (gN M x2)) (nm (sI M x2 ((x3 + x4)).toNatClampNeg (gI M x0 ((x1 + x4)).toNatClampNeg)) fun M1 =>
      f_X8_copies_3 n x0 x1 x2 x3 (x4 + (1 : Int32)) M1)))
set_option maxRecDepth 20000 in
set_option maxHeartbeats 4000000 in
theorem s_X8_copies_3 {z : Zt} {K : Unit → Mm → Prop} (hz : Good z RX8 cX8_copies 5 rX8_copies none) (hq : Ret z zU K) : ∀ (n : Nat) (x0 : Nat) (x1 : Int32) (x2 : Nat) (x3 : Int32) (x4 : Int32) (M : Mm), Sim z 3 [(0, .ref x0), (1, .int x1), (2, .ref x2), (3, .int x3), (4, .int x4)] [] M 0 0 (f_X8_copies_3 n x0 x1 x2 x3 x4 M) K := by
  intro n
  induction n with
  | zero => exact fun _ _ _ _ _ _ => r_none
  | succ n ih =>
    intro x0 x1 x2 x3 x4 M
    unfold f_X8_copies_3
    refine r_iload hz dX8_copies_3 4 rfl ?_
    refine r_sipush (v := 1407) hz dX8_copies_5 rfl ?_
    refine r_icmp_ge (tgt := 29) hz dX8_copies_8 rfl ?_ ?_
    · exact r_vret hz hq dX8_copies_29 (Nat.le_of_ble_eq_true rfl) (Nat.le_of_ble_eq_true rfl)
    · refine r_aload_n hz dX8_copies_11 2 rfl ?_
      refine r_iload_n hz dX8_copies_12 3 rfl ?_
      refine r_iload hz dX8_copies_13 4 rfl ?_
      refine r_iadd hz dX8_copies_15 ?_
      refine r_aload_n hz dX8_copies_16 0 rfl ?_
      refine r_iload_n hz dX8_copies_17 1 rfl ?_
      refine r_iload hz dX8_copies_18 4 rfl ?_
      refine r_iadd hz dX8_copies_20 ?_
      refine r_iald hz dX8_copies_21 ?_
      refine r_iast hz dX8_copies_22 ?_
      refine r_nmM (fun M1 => ?_)
      refine r_iinc (v := (x4 + (1 : Int32))) (lv' := [(4, .int (x4 + (1 : Int32))), (0, .ref x0), (1, .int x1), (2, .ref x2), (3, .int x3)]) hz dX8_copies_23 4 rfl rfl (by decide) rfl ?_
      refine r_goto (tgt := 3) hz dX8_copies_26 rfl ?_
      refine r_sub [1, 2, 3, 4, 0] rfl ?_
      exact ih x0 x1 x2 x3 (x4 + (1 : Int32)) M1
def f_X8_copies (p0 : Nat) (p1 : Int32) (p2 : Nat) (p3 : Int32) (M : Mm) : Option (Unit × Mm) :=
  f_X8_copies_3 FU p0 p1 p2 p3 (0 : Int32) M
set_option maxRecDepth 20000 in
set_option maxHeartbeats 4000000 in
theorem t_X8_copies (p0 : Nat) (p1 : Int32) (p2 : Nat) (p3 : Int32) (M : Mm) (x : Unit) (M' : Mm) (h : f_X8_copies p0 p1 p2 p3 M = some (x, M')) : Ctr yX8_copies cX8_copies 5 none rX8_copies (fun _ => [.ref p0, .int p1, .ref p2, .int p3]) M (zU x) M' := by
  refine ctr_of (plainFor_of_name (by decide)) (fun _ => Nat.le_of_ble_eq_true rfl) (fun z hz hin hq => ?_)
  have key : Sim z 0 [(0, .ref p0), (1, .int p1), (2, .ref p2), (3, .int p3)] [] M 0 0 (f_X8_copies p0 p1 p2 p3 M) (fun a b => a = x ∧ b = M') := by
    have hq : Ret z zU (fun a b => a = x ∧ b = M') := fun a b e => by rw [e.1, e.2]; exact hq
    unfold f_X8_copies
    refine r_iconst (v := 0) hz dX8_copies_0 rfl ?_
    refine r_istore (lv' := [(4, .int (0 : Int32)), (0, .ref p0), (1, .int p1), (2, .ref p2), (3, .int p3)]) hz dX8_copies_1 (by decide) rfl ?_
    refine r_sub [1, 2, 3, 4, 0] rfl ?_
    exact s_X8_copies_3 hz hq FU p0 p1 p2 p3 (0 : Int32) M
  exact key x M' h ⟨rfl, rfl⟩
theorem dX8_loanOf_0 : decode cX8_loanOf 0 = .ok (.aload_n 0, 1) := by decide +kernel
theorem dX8_loanOf_1 : decode cX8_loanOf 1 = .ok (.getfield 13, 3) := by decide +kernel
theorem dX8_loanOf_4 : decode cX8_loanOf 4 = .ok (.bipush 12, 2) := by decide +kernel
theorem dX8_loanOf_6 : decode cX8_loanOf 6 = .ok (.bipush 7, 2) := by decide +kernel
theorem dX8_loanOf_8 : decode cX8_loanOf 8 = .ok (.iload_n 1, 1) := by decide +kernel
theorem dX8_loanOf_9 : decode cX8_loanOf 9 = .ok (.imul, 1) := by decide +kernel
theorem dX8_loanOf_10 : decode cX8_loanOf 10 = .ok (.iadd, 1) := by decide +kernel
theorem dX8_loanOf_11 : decode cX8_loanOf 11 = .ok (.iload_n 2, 1) := by decide +kernel
theorem dX8_loanOf_12 : decode cX8_loanOf 12 = .ok (.iadd, 1) := by decide +kernel
theorem dX8_loanOf_13 : decode cX8_loanOf 13 = .ok (.iaload, 1) := by decide +kernel
theorem dX8_loanOf_14 : decode cX8_loanOf 14 = .ok (.ireturn, 1) := by decide +kernel
abbrev rX8_loanOf : Room := { frames := 0, cells := 0, slots := 0, locals := 0 }
theorem cal_X8_loanOf : CalOk yX8_loanOf cX8_loanOf 3 (some .int) 2 := ⟨wm_6_71, wm_1_9, by decide, by decide, by decide +kernel⟩
def f_X8_loanOf (p0 : Nat) (p1 : Int32) (p2 : Int32) (M : Mm) : Option (Int32 × Mm) :=
  ck (gK M p0 = 8) (bR (gR M p0 11) fun q1 => ck (gK M q1 = 10 ∧ inb (((12 : Int32) + ((7 : Int32) * p1)) + p2) (gN M q1)) (some ((gI M q1 ((((12 : Int32) + ((7 : Int32) * p1)) + p2)).toNatClampNeg), M)))
set_option maxRecDepth 20000 in
set_option maxHeartbeats 4000000 in
theorem t_X8_loanOf (p0 : Nat) (p1 : Int32) (p2 : Int32) (M : Mm) (x : Int32) (M' : Mm) (h : f_X8_loanOf p0 p1 p2 M = some (x, M')) : Ctr yX8_loanOf cX8_loanOf 3 (some .int) rX8_loanOf (fun _ => [.ref p0, .int p1, .int p2]) M (zI x) M' := by
  refine ctr_of (plainFor_of_name (by decide)) (fun _ => Nat.le_of_ble_eq_true rfl) (fun z hz hin hq => ?_)
  have key : Sim z 0 [(0, .ref p0), (1, .int p1), (2, .int p2)] [] M 0 0 (f_X8_loanOf p0 p1 p2 M) (fun a b => a = x ∧ b = M') := by
    have hq : Ret z zI (fun a b => a = x ∧ b = M') := fun a b e => by rw [e.1, e.2]; exact hq
    unfold f_X8_loanOf
    refine r_aload_n hz dX8_loanOf_0 0 rfl ?_
    refine r_getR (j := 11) cl8 hz dX8_loanOf_1 (by decide) wm_5_67 rfl (fun q1 => ?_)
    refine r_bipush (v := 12) hz dX8_loanOf_4 rfl ?_
    refine r_bipush (v := 7) hz dX8_loanOf_6 rfl ?_
    refine r_iload_n hz dX8_loanOf_8 1 rfl ?_
    refine r_imul hz dX8_loanOf_9 ?_
    refine r_iadd hz dX8_loanOf_10 ?_
    refine r_iload_n hz dX8_loanOf_11 2 rfl ?_
    refine r_iadd hz dX8_loanOf_12 ?_
    refine r_iald hz dX8_loanOf_13 ?_
    exact r_iret hz hq dX8_loanOf_14 (Nat.le_of_ble_eq_true rfl) (Nat.le_of_ble_eq_true rfl)
  exact key x M' h ⟨rfl, rfl⟩
theorem dX8_named_0 : decode cX8_named 0 = .ok (.iload_n 1, 1) := by decide +kernel
theorem dX8_named_1 : decode cX8_named 1 = .ok (.ifCond .eq 8, 3) := by decide +kernel
theorem dX8_named_4 : decode cX8_named 4 = .ok (.bipush 6, 2) := by decide +kernel
theorem dX8_named_6 : decode cX8_named 6 = .ok (.goto 4, 3) := by decide +kernel
theorem dX8_named_9 : decode cX8_named 9 = .ok (.iconst 2, 1) := by decide +kernel
theorem dX8_named_10 : decode cX8_named 10 = .ok (.istore_n 2, 1) := by decide +kernel
theorem dX8_named_11 : decode cX8_named 11 = .ok (.iconst 0, 1) := by decide +kernel
theorem dX8_named_12 : decode cX8_named 12 = .ok (.istore_n 3, 1) := by decide +kernel
theorem dX8_named_13 : decode cX8_named 13 = .ok (.iload_n 3, 1) := by decide +kernel
theorem dX8_named_14 : decode cX8_named 14 = .ok (.aload_n 0, 1) := by decide +kernel
theorem dX8_named_15 : decode cX8_named 15 = .ok (.getfield 17, 3) := by decide +kernel
theorem dX8_named_18 : decode cX8_named 18 = .ok (.iload_n 1, 1) := by decide +kernel
theorem dX8_named_19 : decode cX8_named 19 = .ok (.ifCond .eq 7, 3) := by decide +kernel
theorem dX8_named_22 : decode cX8_named 22 = .ok (.iconst 1, 1) := by decide +kernel
theorem dX8_named_23 : decode cX8_named 23 = .ok (.goto 4, 3) := by decide +kernel
theorem dX8_named_26 : decode cX8_named 26 = .ok (.iconst 0, 1) := by decide +kernel
theorem dX8_named_27 : decode cX8_named 27 = .ok (.iaload, 1) := by decide +kernel
theorem dX8_named_28 : decode cX8_named 28 = .ok (.if_icmp .ge 26, 3) := by decide +kernel
theorem dX8_named_31 : decode cX8_named 31 = .ok (.aload_n 0, 1) := by decide +kernel
theorem dX8_named_32 : decode cX8_named 32 = .ok (.getfield 17, 3) := by decide +kernel
theorem dX8_named_35 : decode cX8_named 35 = .ok (.iload_n 2, 1) := by decide +kernel
theorem dX8_named_36 : decode cX8_named 36 = .ok (.iload_n 3, 1) := by decide +kernel
theorem dX8_named_37 : decode cX8_named 37 = .ok (.iadd, 1) := by decide +kernel
theorem dX8_named_38 : decode cX8_named 38 = .ok (.iaload, 1) := by decide +kernel
theorem dX8_named_39 : decode cX8_named 39 = .ok (.aload_n 0, 1) := by decide +kernel
theorem dX8_named_40 : decode cX8_named 40 = .ok (.getfield 73, 3) := by decide +kernel
theorem dX8_named_43 : decode cX8_named 43 = .ok (.if_icmp .ne 5, 3) := by decide +kernel
theorem dX8_named_46 : decode cX8_named 46 = .ok (.iload_n 3, 1) := by decide +kernel
theorem dX8_named_47 : decode cX8_named 47 = .ok (.ireturn, 1) := by decide +kernel
theorem dX8_named_48 : decode cX8_named 48 = .ok (.iinc 3 1, 3) := by decide +kernel
theorem dX8_named_51 : decode cX8_named 51 = .ok (.goto (-38), 3) := by decide +kernel
theorem dX8_named_54 : decode cX8_named 54 = .ok (.iconst (-1), 1) := by decide +kernel
theorem dX8_named_55 : decode cX8_named 55 = .ok (.ireturn, 1) := by decide +kernel
abbrev rX8_named : Room := { frames := 0, cells := 0, slots := 0, locals := 0 }
theorem cal_X8_named : CalOk yX8_named cX8_named 4 (some .int) 1 := ⟨wm_6_9, wm_1_9, by decide, by decide, by decide +kernel⟩
def f_X8_named_27 (r13 : Nat → Int32 → Int32 → Int32 → Mm → Option (Int32 × Mm)) (x0 : Nat) (x1 : Int32) (x2 : Int32) (x3 : Int32) (y0 : Int32) (y1 : Nat) (y2 : Int32) (M : Mm) : Option (Int32 × Mm) :=
  ck (gK M y1 = 10 ∧ inb y0 (gN M y1)) ((if (gI M y1 (y0).toNatClampNeg) ≤ y2 then
    some ((-1 : Int32), M)
  else
    ck (gK M x0 = 8) (bR (gR M x0 12) fun q1 => ck (gK M q1 = 10 ∧ inb (x2 + x3) (gN M q1)) (ck (gK M x0 = 8) ((if ¬ (gI M q1 ((x2 + x3)).toNatClampNeg) = (gI M x0 8) then
      r13 x0 x1 x2 (x3 + (1 : Int32)) M
    else
      some (x3, M)))))))
set_option maxRecDepth 20000 in
set_option maxHeartbeats 4000000 in
theorem s_X8_named_27 {z : Zt} {K : Int32 → Mm → Prop} (hz : Good z RX8 cX8_named 4 rX8_named (some .int)) (hq : Ret z zI K) {r13 : Nat → Int32 → Int32 → Int32 → Mm → Option (Int32 × Mm)} (H13 : ∀ (x0 : Nat) (x1 : Int32) (x2 : Int32) (x3 : Int32) (M : Mm), Sim z 13 [(0, .ref x0), (1, .int x1), (2, .int x2), (3, .int x3)] [] M 0 0 (r13 x0 x1 x2 x3 M) K) : ∀ (x0 : Nat) (x1 : Int32) (x2 : Int32) (x3 : Int32) (y0 : Int32) (y1 : Nat) (y2 : Int32) (M : Mm), Sim z 27 [(0, .ref x0), (1, .int x1), (2, .int x2), (3, .int x3)] [.int y0, .ref y1, .int y2] M 0 0 (f_X8_named_27 r13 x0 x1 x2 x3 y0 y1 y2 M) K := by
  intro x0 x1 x2 x3 y0 y1 y2 M
  unfold f_X8_named_27
  refine r_iald hz dX8_named_27 ?_
  refine r_icmp_ge (tgt := 54) hz dX8_named_28 rfl ?_ ?_
  · refine r_iconst (v := -1) hz dX8_named_54 rfl ?_
    exact r_iret hz hq dX8_named_55 (Nat.le_of_ble_eq_true rfl) (Nat.le_of_ble_eq_true rfl)
  · refine r_aload_n hz dX8_named_31 0 rfl ?_
    refine r_getR (j := 12) cl8 hz dX8_named_32 (by decide) wm_5_68 rfl (fun q1 => ?_)
    refine r_iload_n hz dX8_named_35 2 rfl ?_
    refine r_iload_n hz dX8_named_36 3 rfl ?_
    refine r_iadd hz dX8_named_37 ?_
    refine r_iald hz dX8_named_38 ?_
    refine r_aload_n hz dX8_named_39 0 rfl ?_
    refine r_getI (j := 8) cl8 hz dX8_named_40 (by decide) wm_5_64 rfl ?_
    refine r_icmp_ne (tgt := 48) hz dX8_named_43 rfl ?_ ?_
    · refine r_iinc (v := (x3 + (1 : Int32))) (lv' := [(3, .int (x3 + (1 : Int32))), (0, .ref x0), (1, .int x1), (2, .int x2)]) hz dX8_named_48 3 rfl rfl (by decide) rfl ?_
      refine r_goto (tgt := 13) hz dX8_named_51 rfl ?_
      refine r_sub [1, 2, 3, 0] rfl ?_
      exact H13 x0 x1 x2 (x3 + (1 : Int32)) M
    · refine r_iload_n hz dX8_named_46 3 rfl ?_
      exact r_iret hz hq dX8_named_47 (Nat.le_of_ble_eq_true rfl) (Nat.le_of_ble_eq_true rfl)
def f_X8_named_13 : Nat → Nat → Int32 → Int32 → Int32 → Mm → Option (Int32 × Mm)
  | 0, _, _, _, _, _ => none
  | n + 1, x0, x1, x2, x3, M =>
    ck (gK M x0 = 8) (bR (gR M x0 12) fun q1 => (if x1 = 0 then
      f_X8_named_27 (f_X8_named_13 n) x0 x1 x2 x3 (0 : Int32) q1 x3 M
    else
      f_X8_named_27 (f_X8_named_13 n) x0 x1 x2 x3 (1 : Int32) q1 x3 M))
set_option maxRecDepth 20000 in
set_option maxHeartbeats 4000000 in
theorem s_X8_named_13 {z : Zt} {K : Int32 → Mm → Prop} (hz : Good z RX8 cX8_named 4 rX8_named (some .int)) (hq : Ret z zI K) : ∀ (n : Nat) (x0 : Nat) (x1 : Int32) (x2 : Int32) (x3 : Int32) (M : Mm), Sim z 13 [(0, .ref x0), (1, .int x1), (2, .int x2), (3, .int x3)] [] M 0 0 (f_X8_named_13 n x0 x1 x2 x3 M) K := by
  intro n
  induction n with
  | zero => exact fun _ _ _ _ _ => r_none
  | succ n ih =>
    intro x0 x1 x2 x3 M
    unfold f_X8_named_13
    refine r_iload_n hz dX8_named_13 3 rfl ?_
    refine r_aload_n hz dX8_named_14 0 rfl ?_
    refine r_getR (j := 12) cl8 hz dX8_named_15 (by decide) wm_5_68 rfl (fun q1 => ?_)
    refine r_iload_n hz dX8_named_18 1 rfl ?_
    refine r_if_eq (tgt := 26) hz dX8_named_19 rfl ?_ ?_
    · refine r_iconst (v := 0) hz dX8_named_26 rfl ?_
      exact s_X8_named_27 hz hq ih x0 x1 x2 x3 (0 : Int32) q1 x3 M
    · refine r_iconst (v := 1) hz dX8_named_22 rfl ?_
      refine r_goto (tgt := 27) hz dX8_named_23 rfl ?_
      exact s_X8_named_27 hz hq ih x0 x1 x2 x3 (1 : Int32) q1 x3 M
def f_X8_named (p0 : Nat) (p1 : Int32) (M : Mm) : Option (Int32 × Mm) :=
  (if p1 = 0 then
    f_X8_named_13 FU p0 p1 (2 : Int32) (0 : Int32) M
  else
    f_X8_named_13 FU p0 p1 (6 : Int32) (0 : Int32) M)
set_option maxRecDepth 20000 in
set_option maxHeartbeats 4000000 in
theorem t_X8_named (p0 : Nat) (p1 : Int32) (M : Mm) (x : Int32) (M' : Mm) (h : f_X8_named p0 p1 M = some (x, M')) : Ctr yX8_named cX8_named 4 (some .int) rX8_named (fun _ => [.ref p0, .int p1]) M (zI x) M' := by
  refine ctr_of (plainFor_of_name (by decide)) (fun _ => Nat.le_of_ble_eq_true rfl) (fun z hz hin hq => ?_)
  have key : Sim z 0 [(0, .ref p0), (1, .int p1)] [] M 0 0 (f_X8_named p0 p1 M) (fun a b => a = x ∧ b = M') := by
    have hq : Ret z zI (fun a b => a = x ∧ b = M') := fun a b e => by rw [e.1, e.2]; exact hq
    unfold f_X8_named
    refine r_iload_n hz dX8_named_0 1 rfl ?_
    refine r_if_eq (tgt := 9) hz dX8_named_1 rfl ?_ ?_
    · refine r_iconst (v := 2) hz dX8_named_9 rfl ?_
      refine r_istore_n (lv' := [(2, .int (2 : Int32)), (0, .ref p0), (1, .int p1)]) hz dX8_named_10 (by decide) rfl ?_
      refine r_iconst (v := 0) hz dX8_named_11 rfl ?_
      refine r_istore_n (lv' := [(3, .int (0 : Int32)), (2, .int (2 : Int32)), (0, .ref p0), (1, .int p1)]) hz dX8_named_12 (by decide) rfl ?_
      refine r_sub [2, 3, 1, 0] rfl ?_
      exact s_X8_named_13 hz hq FU p0 p1 (2 : Int32) (0 : Int32) M
    · refine r_bipush (v := 6) hz dX8_named_4 rfl ?_
      refine r_goto (tgt := 10) hz dX8_named_6 rfl ?_
      refine r_istore_n (lv' := [(2, .int (6 : Int32)), (0, .ref p0), (1, .int p1)]) hz dX8_named_10 (by decide) rfl ?_
      refine r_iconst (v := 0) hz dX8_named_11 rfl ?_
      refine r_istore_n (lv' := [(3, .int (0 : Int32)), (2, .int (6 : Int32)), (0, .ref p0), (1, .int p1)]) hz dX8_named_12 (by decide) rfl ?_
      refine r_sub [2, 3, 1, 0] rfl ?_
      exact s_X8_named_13 hz hq FU p0 p1 (6 : Int32) (0 : Int32) M
  exact key x M' h ⟨rfl, rfl⟩
theorem dX8_newName_0 : decode cX8_newName 0 = .ok (.aload_n 0, 1) := by decide +kernel
theorem dX8_newName_1 : decode cX8_newName 1 = .ok (.invokevirtual 157, 3) := by decide +kernel
theorem dX8_newName_4 : decode cX8_newName 4 = .ok (.ifCond .ne 9, 3) := by decide +kernel
theorem dX8_newName_7 : decode cX8_newName 7 = .ok (.aload_n 0, 1) := by decide +kernel
theorem dX8_newName_8 : decode cX8_newName 8 = .ok (.iconst 1, 1) := by decide +kernel
theorem dX8_newName_9 : decode cX8_newName 9 = .ok (.invokevirtual 144, 3) := by decide +kernel
theorem dX8_newName_12 : decode cX8_newName 12 = .ok (.ireturn, 1) := by decide +kernel
theorem dX8_newName_13 : decode cX8_newName 13 = .ok (.aload_n 0, 1) := by decide +kernel
theorem dX8_newName_14 : decode cX8_newName 14 = .ok (.iconst 0, 1) := by decide +kernel
theorem dX8_newName_15 : decode cX8_newName 15 = .ok (.invokevirtual 160, 3) := by decide +kernel
theorem dX8_newName_18 : decode cX8_newName 18 = .ok (.iconst (-1), 1) := by decide +kernel
theorem dX8_newName_19 : decode cX8_newName 19 = .ok (.if_icmp .ne 12, 3) := by decide +kernel
theorem dX8_newName_22 : decode cX8_newName 22 = .ok (.aload_n 0, 1) := by decide +kernel
theorem dX8_newName_23 : decode cX8_newName 23 = .ok (.iconst 1, 1) := by decide +kernel
theorem dX8_newName_24 : decode cX8_newName 24 = .ok (.invokevirtual 160, 3) := by decide +kernel
theorem dX8_newName_27 : decode cX8_newName 27 = .ok (.iconst (-1), 1) := by decide +kernel
theorem dX8_newName_28 : decode cX8_newName 28 = .ok (.if_icmp .eq 9, 3) := by decide +kernel
theorem dX8_newName_31 : decode cX8_newName 31 = .ok (.aload_n 0, 1) := by decide +kernel
theorem dX8_newName_32 : decode cX8_newName 32 = .ok (.iconst 2, 1) := by decide +kernel
theorem dX8_newName_33 : decode cX8_newName 33 = .ok (.invokevirtual 144, 3) := by decide +kernel
theorem dX8_newName_36 : decode cX8_newName 36 = .ok (.ireturn, 1) := by decide +kernel
theorem dX8_newName_37 : decode cX8_newName 37 = .ok (.aload_n 0, 1) := by decide +kernel
theorem dX8_newName_38 : decode cX8_newName 38 = .ok (.getfield 17, 3) := by decide +kernel
theorem dX8_newName_41 : decode cX8_newName 41 = .ok (.iload_n 1, 1) := by decide +kernel
theorem dX8_newName_42 : decode cX8_newName 42 = .ok (.aload_n 0, 1) := by decide +kernel
theorem dX8_newName_43 : decode cX8_newName 43 = .ok (.getfield 73, 3) := by decide +kernel
theorem dX8_newName_46 : decode cX8_newName 46 = .ok (.iastore, 1) := by decide +kernel
theorem dX8_newName_47 : decode cX8_newName 47 = .ok (.aload_n 0, 1) := by decide +kernel
theorem dX8_newName_48 : decode cX8_newName 48 = .ok (.invokevirtual 147, 3) := by decide +kernel
theorem dX8_newName_51 : decode cX8_newName 51 = .ok (.iconst 1, 1) := by decide +kernel
theorem dX8_newName_52 : decode cX8_newName 52 = .ok (.ireturn, 1) := by decide +kernel
abbrev rX8_newName : Room := { frames := 3, cells := 0, slots := 0, locals := 61 }
theorem cal_X8_newName : CalOk yX8_newName cX8_newName 2 (some .boolean) 1 := ⟨wm_5_211, wm_1_9, by decide, by decide, by decide +kernel⟩
def f_X8_newName (p0 : Nat) (p1 : Int32) (M : Mm) : Option (Int32 × Mm) :=
  ck (gK M p0 = 8) (bd (f_X8_isName p0 M) fun v2 M1 =>
  (if ¬ v2 = 0 then
    ck (gK M1 p0 = 8) (bd (f_X8_named p0 (0 : Int32) M1) fun v4 M3 =>
    (if ¬ v4 = (-1 : Int32) then
      ck (gK M3 p0 = 8) (bd (f_X8_bad p0 (2 : Int32) M3) fun v6 M5 =>
      ck (v6 = 0 ∨ v6 = 1) (some (v6, M5)))
    else
      ck (gK M3 p0 = 8) (bd (f_X8_named p0 (1 : Int32) M3) fun v9 M8 =>
      (if v9 = (-1 : Int32) then
        ck (gK M8 p0 = 8) (bR (gR M8 p0 12) fun q10 => ck (gK M8 p0 = 8) (ck (gK M8 q10 = 10 ∧ inb p1 (gN M8 q10)) (nm (sI M8 q10 (p1).toNatClampNeg (gI M8 p0 8)) fun M11 =>
        ck (gK M11 p0 = 8) (bd (f_X8_go p0 M11) fun _ M12 =>
        some ((1 : Int32), M12)))))
      else
        ck (gK M8 p0 = 8) (bd (f_X8_bad p0 (2 : Int32) M8) fun v14 M13 =>
        ck (v14 = 0 ∨ v14 = 1) (some (v14, M13)))))))
  else
    ck (gK M1 p0 = 8) (bd (f_X8_bad p0 (1 : Int32) M1) fun v17 M16 =>
    ck (v17 = 0 ∨ v17 = 1) (some (v17, M16)))))
set_option maxRecDepth 20000 in
set_option maxHeartbeats 4000000 in
theorem t_X8_newName (p0 : Nat) (p1 : Int32) (M : Mm) (x : Int32) (M' : Mm) (h : f_X8_newName p0 p1 M = some (x, M')) : Ctr yX8_newName cX8_newName 2 (some .boolean) rX8_newName (fun _ => [.ref p0, .int p1]) M (zI x) M' := by
  refine ctr_of (plainFor_of_name (by decide)) (fun _ => Nat.le_of_ble_eq_true rfl) (fun z hz hin hq => ?_)
  have key : Sim z 0 [(0, .ref p0), (1, .int p1)] [] M 0 0 (f_X8_newName p0 p1 M) (fun a b => a = x ∧ b = M') := by
    have hq : Ret z zI (fun a b => a = x ∧ b = M') := fun a b e => by rw [e.1, e.2]; exact hq
    unfold f_X8_newName
    refine r_aload_n hz dX8_newName_0 0 rfl ?_
    refine r_callVi (As := fun _ => []) cl8 hz (fun _ _ h => t_X8_isName _ _ _ _ h) cal_X8_isName dX8_newName_1 wm_5_212 wm_5_214 wm_p_51 rfl rfl (Nat.le_of_ble_eq_true rfl) ⟨(Nat.le_of_ble_eq_true rfl), (Nat.le_of_ble_eq_true rfl)⟩ ⟨(Nat.le_of_ble_eq_true rfl), (Nat.le_of_ble_eq_true rfl)⟩ (fun v2 M1 => ?_)
    refine r_if_ne (tgt := 13) hz dX8_newName_4 rfl ?_ ?_
    · refine r_aload_n hz dX8_newName_13 0 rfl ?_
      refine r_iconst (v := 0) hz dX8_newName_14 rfl ?_
      refine r_callVi (As := fun _ => [.int (0 : Int32)]) cl8 hz (fun _ _ h => t_X8_named _ _ _ _ _ h) cal_X8_named dX8_newName_15 wm_6_6 wm_6_8 wm_p_53 rfl rfl (Nat.le_of_ble_eq_true rfl) ⟨(Nat.le_of_ble_eq_true rfl), (Nat.le_of_ble_eq_true rfl)⟩ ⟨(Nat.le_of_ble_eq_true rfl), (Nat.le_of_ble_eq_true rfl)⟩ (fun v4 M3 => ?_)
      refine r_iconst (v := -1) hz dX8_newName_18 rfl ?_
      refine r_icmp_ne (tgt := 31) hz dX8_newName_19 rfl ?_ ?_
      · refine r_aload_n hz dX8_newName_31 0 rfl ?_
        refine r_iconst (v := 2) hz dX8_newName_32 rfl ?_
        refine r_callVi (As := fun _ => [.int (2 : Int32)]) cl8 hz (fun _ _ h => t_X8_bad _ _ _ _ _ h) cal_X8_bad dX8_newName_33 wm_5_204 wm_5_206 wm_p_49 rfl rfl (Nat.le_of_ble_eq_true rfl) ⟨(Nat.le_of_ble_eq_true rfl), (Nat.le_of_ble_eq_true rfl)⟩ ⟨(Nat.le_of_ble_eq_true rfl), (Nat.le_of_ble_eq_true rfl)⟩ (fun v6 M5 => ?_)
        refine r_ck (fun h7 => ?_)
        exact r_zret hz hq dX8_newName_36 h7 (Nat.le_of_ble_eq_true rfl) (Nat.le_of_ble_eq_true rfl)
      · refine r_aload_n hz dX8_newName_22 0 rfl ?_
        refine r_iconst (v := 1) hz dX8_newName_23 rfl ?_
        refine r_callVi (As := fun _ => [.int (1 : Int32)]) cl8 hz (fun _ _ h => t_X8_named _ _ _ _ _ h) cal_X8_named dX8_newName_24 wm_6_6 wm_6_8 wm_p_53 rfl rfl (Nat.le_of_ble_eq_true rfl) ⟨(Nat.le_of_ble_eq_true rfl), (Nat.le_of_ble_eq_true rfl)⟩ ⟨(Nat.le_of_ble_eq_true rfl), (Nat.le_of_ble_eq_true rfl)⟩ (fun v9 M8 => ?_)
        refine r_iconst (v := -1) hz dX8_newName_27 rfl ?_
        refine r_icmp_eq (tgt := 37) hz dX8_newName_28 rfl ?_ ?_
        · refine r_aload_n hz dX8_newName_37 0 rfl ?_
          refine r_getR (j := 12) cl8 hz dX8_newName_38 (by decide) wm_5_68 rfl (fun q10 => ?_)
          refine r_iload_n hz dX8_newName_41 1 rfl ?_
          refine r_aload_n hz dX8_newName_42 0 rfl ?_
          refine r_getI (j := 8) cl8 hz dX8_newName_43 (by decide) wm_5_64 rfl ?_
          refine r_iast hz dX8_newName_46 ?_
          refine r_nmM (fun M11 => ?_)
          refine r_aload_n hz dX8_newName_47 0 rfl ?_
          refine r_callVv (As := fun _ => []) cl8 hz (fun _ _ h => t_X8_go _ _ _ _ h) cal_X8_go dX8_newName_48 wm_5_178 wm_5_180 wm_p_44 rfl rfl (Nat.le_of_ble_eq_true rfl) ⟨(Nat.le_of_ble_eq_true rfl), (Nat.le_of_ble_eq_true rfl)⟩ ⟨(Nat.le_of_ble_eq_true rfl), (Nat.le_of_ble_eq_true rfl)⟩ (fun _ M12 => ?_)
          refine r_iconst (v := 1) hz dX8_newName_51 rfl ?_
          exact r_zret hz hq dX8_newName_52 (Or.inr rfl) (Nat.le_of_ble_eq_true rfl) (Nat.le_of_ble_eq_true rfl)
        · refine r_aload_n hz dX8_newName_31 0 rfl ?_
          refine r_iconst (v := 2) hz dX8_newName_32 rfl ?_
          refine r_callVi (As := fun _ => [.int (2 : Int32)]) cl8 hz (fun _ _ h => t_X8_bad _ _ _ _ _ h) cal_X8_bad dX8_newName_33 wm_5_204 wm_5_206 wm_p_49 rfl rfl (Nat.le_of_ble_eq_true rfl) ⟨(Nat.le_of_ble_eq_true rfl), (Nat.le_of_ble_eq_true rfl)⟩ ⟨(Nat.le_of_ble_eq_true rfl), (Nat.le_of_ble_eq_true rfl)⟩ (fun v14 M13 => ?_)
          refine r_ck (fun h15 => ?_)
          exact r_zret hz hq dX8_newName_36 h15 (Nat.le_of_ble_eq_true rfl) (Nat.le_of_ble_eq_true rfl)
    · refine r_aload_n hz dX8_newName_7 0 rfl ?_
      refine r_iconst (v := 1) hz dX8_newName_8 rfl ?_
      refine r_callVi (As := fun _ => [.int (1 : Int32)]) cl8 hz (fun _ _ h => t_X8_bad _ _ _ _ _ h) cal_X8_bad dX8_newName_9 wm_5_204 wm_5_206 wm_p_49 rfl rfl (Nat.le_of_ble_eq_true rfl) ⟨(Nat.le_of_ble_eq_true rfl), (Nat.le_of_ble_eq_true rfl)⟩ ⟨(Nat.le_of_ble_eq_true rfl), (Nat.le_of_ble_eq_true rfl)⟩ (fun v17 M16 => ?_)
      refine r_ck (fun h18 => ?_)
      exact r_zret hz hq dX8_newName_12 h18 (Nat.le_of_ble_eq_true rfl) (Nat.le_of_ble_eq_true rfl)
  exact key x M' h ⟨rfl, rfl⟩
