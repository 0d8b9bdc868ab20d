theorem dX8_image_0 : decode cX8_image 0 = .ok (.aload_n 0, 1) := by decide +kernel
theorem dX8_image_1 : decode cX8_image 1 = .ok (.iconst 0, 1) := by decide +kernel
theorem dX8_image_2 : decode cX8_image 2 = .ok (.putfield 46, 3) := by decide +kernel
theorem dX8_image_5 : decode cX8_image 5 = .ok (.iload_n 1, 1) := by decide +kernel
theorem dX8_image_6 : decode cX8_image 6 = .ok (.i2l, 1) := by decide +kernel
theorem dX8_image_7 : decode cX8_image 7 = .ok (.lconst 0, 1) := by decide +kernel
theorem dX8_image_8 : decode cX8_image 8 = .ok (.lconst 1, 1) := by decide +kernel
theorem dX8_image_9 : decode cX8_image 9 = .ok (.invokestatic 83, 3) := by decide +kernel
theorem dX8_image_12 : decode cX8_image 12 = .ok (.ifCond .eq 16, 3) := by decide +kernel
theorem dX8_image_15 : decode cX8_image 15 = .ok (.iload_n 2, 1) := by decide +kernel
theorem dX8_image_16 : decode cX8_image 16 = .ok (.ifCond .eq 14, 3) := by decide +kernel
theorem dX8_image_19 : decode cX8_image 19 = .ok (.aload_n 0, 1) := by decide +kernel
theorem dX8_image_20 : decode cX8_image 20 = .ok (.getfield 29, 3) := by decide +kernel
theorem dX8_image_23 : decode cX8_image 23 = .ok (.iload_n 1, 1) := by decide +kernel
theorem dX8_image_24 : decode cX8_image 24 = .ok (.baload, 1) := by decide +kernel
theorem dX8_image_25 : decode cX8_image 25 = .ok (.ifCond .ne 5, 3) := by decide +kernel
theorem dX8_image_28 : decode cX8_image 28 = .ok (.iconst 0, 1) := by decide +kernel
theorem dX8_image_29 : decode cX8_image 29 = .ok (.ireturn, 1) := by decide +kernel
theorem dX8_image_30 : decode cX8_image 30 = .ok (.iload_n 2, 1) := by decide +kernel
theorem dX8_image_31 : decode cX8_image 31 = .ok (.ifCond .eq 28, 3) := by decide +kernel
theorem dX8_image_34 : decode cX8_image 34 = .ok (.aload_n 0, 1) := by decide +kernel
theorem dX8_image_35 : decode cX8_image 35 = .ok (.getfield 33, 3) := by decide +kernel
theorem dX8_image_38 : decode cX8_image 38 = .ok (.sipush 1407, 3) := by decide +kernel
theorem dX8_image_41 : decode cX8_image 41 = .ok (.iload_n 1, 1) := by decide +kernel
theorem dX8_image_42 : decode cX8_image 42 = .ok (.imul, 1) := by decide +kernel
theorem dX8_image_43 : decode cX8_image 43 = .ok (.aload_n 0, 1) := by decide +kernel
theorem dX8_image_44 : decode cX8_image 44 = .ok (.getfield 20, 3) := by decide +kernel
theorem dX8_image_47 : decode cX8_image 47 = .ok (.iconst 0, 1) := by decide +kernel
theorem dX8_image_48 : decode cX8_image 48 = .ok (.invokestatic 215, 3) := by decide +kernel
theorem dX8_image_51 : decode cX8_image 51 = .ok (.aload_n 0, 1) := by decide +kernel
theorem dX8_image_52 : decode cX8_image 52 = .ok (.iconst 0, 1) := by decide +kernel
theorem dX8_image_53 : decode cX8_image 53 = .ok (.putfield 219, 3) := by decide +kernel
theorem dX8_image_56 : decode cX8_image 56 = .ok (.goto 27, 3) := by decide +kernel
theorem dX8_image_59 : decode cX8_image 59 = .ok (.aload_n 0, 1) := by decide +kernel
theorem dX8_image_60 : decode cX8_image 60 = .ok (.getfield 20, 3) := by decide +kernel
theorem dX8_image_63 : decode cX8_image 63 = .ok (.iconst 0, 1) := by decide +kernel
theorem dX8_image_64 : decode cX8_image 64 = .ok (.aload_n 0, 1) := by decide +kernel
theorem dX8_image_65 : decode cX8_image 65 = .ok (.getfield 33, 3) := by decide +kernel
theorem dX8_image_68 : decode cX8_image 68 = .ok (.sipush 1407, 3) := by decide +kernel
theorem dX8_image_71 : decode cX8_image 71 = .ok (.iload_n 1, 1) := by decide +kernel
theorem dX8_image_72 : decode cX8_image 72 = .ok (.imul, 1) := by decide +kernel
theorem dX8_image_73 : decode cX8_image 73 = .ok (.invokestatic 215, 3) := by decide +kernel
theorem dX8_image_76 : decode cX8_image 76 = .ok (.aload_n 0, 1) := by decide +kernel
theorem dX8_image_77 : decode cX8_image 77 = .ok (.getfield 29, 3) := by decide +kernel
theorem dX8_image_80 : decode cX8_image 80 = .ok (.iload_n 1, 1) := by decide +kernel
theorem dX8_image_81 : decode cX8_image 81 = .ok (.iconst 1, 1) := by decide +kernel
theorem dX8_image_82 : decode cX8_image 82 = .ok (.bastore, 1) := by decide +kernel
theorem dX8_image_83 : decode cX8_image 83 = .ok (.iconst 1, 1) := by decide +kernel
theorem dX8_image_84 : decode cX8_image 84 = .ok (.ireturn, 1) := by decide +kernel
abbrev rX8_image : Room := { frames := 1, cells := 0, slots := 0, locals := 25 }
theorem cal_X8_image : CalOk yX8_image cX8_image 3 (some .boolean) 2 := ⟨wm_6_206, wm_1_9, by decide, by decide, by decide +kernel⟩
def f_X8_image_30 (x0 : Nat) (x1 : Int32) (x2 : Int32) (M : Mm) : Option (Int32 × Mm) :=
  (if x2 = 0 then
    ck (gK M x0 = 8) (bR (gR M x0 17) fun q1 => ck (gK M x0 = 8) (bR (gR M x0 26) fun q2 => bd (f_X8_copies q1 (0 : Int32) q2 ((1407 : Int32) * x1) M) fun _ M3 =>
    ck (gK M3 x0 = 8) (bR (gR M3 x0 25) fun q4 => ck (gK M3 q4 = 11 ∧ inb x1 (gN M3 q4)) (nm (sI M3 q4 (x1).toNatClampNeg (vp_nar .boolean (1 : Int32))) fun M5 =>
    some ((1 : Int32), M5)))))
  else
    ck (gK M x0 = 8) (bR (gR M x0 26) fun q6 => ck (gK M x0 = 8) (bR (gR M x0 17) fun q7 => bd (f_X8_copies q6 ((1407 : Int32) * x1) q7 (0 : Int32) M) fun _ M8 =>
    ck (gK M8 x0 = 8) (nm (sI M8 x0 23 (0 : Int32)) fun M9 =>
    some ((1 : Int32), M9)))))
set_option maxRecDepth 20000 in
set_option maxHeartbeats 4000000 in
theorem s_X8_image_30 {z : Zt} {K : Int32 → Mm → Prop} (hz : Good z RX8 cX8_image 3 rX8_image (some .boolean)) (hq : Ret z zI K) : ∀ (x0 : Nat) (x1 : Int32) (x2 : Int32) (M : Mm), Sim z 30 [(0, .ref x0), (1, .int x1), (2, .int x2)] [] M 0 0 (f_X8_image_30 x0 x1 x2 M) K := by
  intro x0 x1 x2 M
  unfold f_X8_image_30
  refine r_iload_n hz dX8_image_30 2 rfl ?_
  refine r_if_eq (tgt := 59) hz dX8_image_31 rfl ?_ ?_
  · refine r_aload_n hz dX8_image_59 0 rfl ?_
    refine r_getR (j := 17) cl8 hz dX8_image_60 (by decide) wm_5_73 rfl (fun q1 => ?_)
    refine r_iconst (v := 0) hz dX8_image_63 rfl ?_
    refine r_aload_n hz dX8_image_64 0 rfl ?_
    refine r_getR (j := 26) cl8 hz dX8_image_65 (by decide) wm_5_82 rfl (fun q2 => ?_)
    refine r_sipush (v := 1407) hz dX8_image_68 rfl ?_
    refine r_iload_n hz dX8_image_71 1 rfl ?_
    refine r_imul hz dX8_image_72 ?_
    refine r_callSv (As := fun _ => [.ref q1, .int (0 : Int32), .ref q2, .int ((1407 : Int32) * x1)]) hz (fun _ _ h => t_X8_copies _ _ _ _ _ _ _ h) cal_X8_copies dX8_image_73 wm_6_51 wm_6_52 rfl rfl (Nat.le_of_ble_eq_true rfl) ⟨(Nat.le_of_ble_eq_true rfl), (Nat.le_of_ble_eq_true rfl)⟩ ⟨(Nat.le_of_ble_eq_true rfl), (Nat.le_of_ble_eq_true rfl)⟩ (fun _ M3 => ?_)
    refine r_aload_n hz dX8_image_76 0 rfl ?_
    refine r_getR (j := 25) cl8 hz dX8_image_77 (by decide) wm_5_81 rfl (fun q4 => ?_)
    refine r_iload_n hz dX8_image_80 1 rfl ?_
    refine r_iconst (v := 1) hz dX8_image_81 rfl ?_
    refine r_zast hz dX8_image_82 ?_
    refine r_nmM (fun M5 => ?_)
    refine r_iconst (v := 1) hz dX8_image_83 rfl ?_
    exact r_zret hz hq dX8_image_84 (Or.inr rfl) (Nat.le_of_ble_eq_true rfl) (Nat.le_of_ble_eq_true rfl)
  · refine r_aload_n hz dX8_image_34 0 rfl ?_
    refine r_getR (j := 26) cl8 hz dX8_image_35 (by decide) wm_5_82 rfl (fun q6 => ?_)
    refine r_sipush (v := 1407) hz dX8_image_38 rfl ?_
    refine r_iload_n hz dX8_image_41 1 rfl ?_
    refine r_imul hz dX8_image_42 ?_
    refine r_aload_n hz dX8_image_43 0 rfl ?_
    refine r_getR (j := 17) cl8 hz dX8_image_44 (by decide) wm_5_73 rfl (fun q7 => ?_)
    refine r_iconst (v := 0) hz dX8_image_47 rfl ?_
    refine r_callSv (As := fun _ => [.ref q6, .int ((1407 : Int32) * x1), .ref q7, .int (0 : Int32)]) hz (fun _ _ h => t_X8_copies _ _ _ _ _ _ _ h) cal_X8_copies dX8_image_48 wm_6_51 wm_6_52 rfl rfl (Nat.le_of_ble_eq_true rfl) ⟨(Nat.le_of_ble_eq_true rfl), (Nat.le_of_ble_eq_true rfl)⟩ ⟨(Nat.le_of_ble_eq_true rfl), (Nat.le_of_ble_eq_true rfl)⟩ (fun _ M8 => ?_)
    refine r_aload_n hz dX8_image_51 0 rfl ?_
    refine r_iconst (v := 0) hz dX8_image_52 rfl ?_
    refine r_putI (j := 23) cl8 hz dX8_image_53 (by decide) wm_5_79 (Or.inl rfl) rfl rfl rfl ?_
    refine r_nmM (fun M9 => ?_)
    refine r_goto (tgt := 83) hz dX8_image_56 rfl ?_
    refine r_iconst (v := 1) hz dX8_image_83 rfl ?_
    exact r_zret hz hq dX8_image_84 (Or.inr rfl) (Nat.le_of_ble_eq_true rfl) (Nat.le_of_ble_eq_true rfl)
def f_X8_image (p0 : Nat) (p1 : Int32) (p2 : Int32) (M : Mm) : Option (Int32 × Mm) :=
  ck (gK M p0 = 8) (nm (sI M p0 0 (0 : Int32)) fun M1 =>
  bd (f_X8_within (p1).toInt64 (0 : Int64) (1 : Int64) M1) fun v3 M2 =>
  (if v3 = 0 then
    some ((0 : Int32), M2)
  else
    (if p2 = 0 then
      f_X8_image_30 p0 p1 p2 M2
    else
      ck (gK M2 p0 = 8) (bR (gR M2 p0 25) fun q4 => ck (gK M2 q4 = 11 ∧ inb p1 (gN M2 q4)) ((if ¬ (gI M2 q4 (p1).toNatClampNeg) = 0 then
        f_X8_image_30 p0 p1 p2 M2
      else
        some ((0 : Int32), M2)))))))
set_option maxRecDepth 20000 in
set_option maxHeartbeats 4000000 in
theorem t_X8_image (p0 : Nat) (p1 : Int32) (p2 : Int32) (M : Mm) (x : Int32) (M' : Mm) (h : f_X8_image p0 p1 p2 M = some (x, M')) : Ctr yX8_image cX8_image 3 (some .boolean) rX8_image (fun _ => [.ref p0, .int p1, .int p2]) M (zI x) M' := by
  refine ctr_of (plainFor_of_name (by decide)) (fun _ => Nat.le_of_ble_eq_true rfl) (fun z hz hin hq => ?_)
  have key : Sim z 0 [(0, .ref p0), (1, .int p1), (2, .int p2)] [] M 0 0 (f_X8_image p0 p1 p2 M) (fun a b => a = x ∧ b = M') := by
    have hq : Ret z zI (fun a b => a = x ∧ b = M') := fun a b e => by rw [e.1, e.2]; exact hq
    unfold f_X8_image
    refine r_aload_n hz dX8_image_0 0 rfl ?_
    refine r_iconst (v := 0) hz dX8_image_1 rfl ?_
    refine r_putI (j := 0) cl8 hz dX8_image_2 (by decide) wm_5_56 (Or.inl rfl) rfl rfl rfl ?_
    refine r_nmM (fun M1 => ?_)
    refine r_iload_n hz dX8_image_5 1 rfl ?_
    refine r_i2l hz dX8_image_6 ?_
    refine r_lconst (v := 0) hz dX8_image_7 rfl ?_
    refine r_lconst (v := 1) hz dX8_image_8 rfl ?_
    refine r_callSi (As := fun _ => [.long (p1).toInt64, .long (0 : Int64), .long (1 : Int64)]) hz (fun _ _ h => t_X8_within _ _ _ _ _ _ h) cal_X8_within dX8_image_9 wm_5_175 wm_5_176 rfl rfl (Nat.le_of_ble_eq_true rfl) ⟨(Nat.le_of_ble_eq_true rfl), (Nat.le_of_ble_eq_true rfl)⟩ ⟨(Nat.le_of_ble_eq_true rfl), (Nat.le_of_ble_eq_true rfl)⟩ (fun v3 M2 => ?_)
    refine r_if_eq (tgt := 28) hz dX8_image_12 rfl ?_ ?_
    · refine r_iconst (v := 0) hz dX8_image_28 rfl ?_
      exact r_zret hz hq dX8_image_29 (Or.inl rfl) (Nat.le_of_ble_eq_true rfl) (Nat.le_of_ble_eq_true rfl)
    · refine r_iload_n hz dX8_image_15 2 rfl ?_
      refine r_if_eq (tgt := 30) hz dX8_image_16 rfl ?_ ?_
      · exact s_X8_image_30 hz hq p0 p1 p2 M2
      · refine r_aload_n hz dX8_image_19 0 rfl ?_
        refine r_getR (j := 25) cl8 hz dX8_image_20 (by decide) wm_5_81 rfl (fun q4 => ?_)
        refine r_iload_n hz dX8_image_23 1 rfl ?_
        refine r_zald hz dX8_image_24 ?_
        refine r_if_ne (tgt := 30) hz dX8_image_25 rfl ?_ ?_
        · exact s_X8_image_30 hz hq p0 p1 p2 M2
        · refine r_iconst (v := 0) hz dX8_image_28 rfl ?_
          exact r_zret hz hq dX8_image_29 (Or.inl rfl) (Nat.le_of_ble_eq_true rfl) (Nat.le_of_ble_eq_true rfl)
  exact key x M' h ⟨rfl, rfl⟩
theorem dX8_tells_0 : decode cX8_tells 0 = .ok (.aload_n 0, 1) := by decide +kernel
theorem dX8_tells_1 : decode cX8_tells 1 = .ok (.iload_n 1, 1) := by decide +kernel
theorem dX8_tells_2 : decode cX8_tells 2 = .ok (.iconst 0, 1) := by decide +kernel
theorem dX8_tells_3 : decode cX8_tells 3 = .ok (.invokevirtual 232, 3) := by decide +kernel
theorem dX8_tells_6 : decode cX8_tells 6 = .ok (.istore 5, 2) := by decide +kernel
theorem dX8_tells_8 : decode cX8_tells 8 = .ok (.aload_n 0, 1) := by decide +kernel
theorem dX8_tells_9 : decode cX8_tells 9 = .ok (.getfield 20, 3) := by decide +kernel
theorem dX8_tells_12 : decode cX8_tells 12 = .ok (.sipush 1211, 3) := by decide +kernel
theorem dX8_tells_15 : decode cX8_tells 15 = .ok (.iload_n 1, 1) := by decide +kernel
theorem dX8_tells_16 : decode cX8_tells 16 = .ok (.iadd, 1) := by decide +kernel
theorem dX8_tells_17 : decode cX8_tells 17 = .ok (.iaload, 1) := by decide +kernel
theorem dX8_tells_18 : decode cX8_tells 18 = .ok (.iload 4, 2) := by decide +kernel
theorem dX8_tells_20 : decode cX8_tells 20 = .ok (.iadd, 1) := by decide +kernel
theorem dX8_tells_21 : decode cX8_tells 21 = .ok (.istore 6, 2) := by decide +kernel
theorem dX8_tells_23 : decode cX8_tells 23 = .ok (.aload_n 0, 1) := by decide +kernel
theorem dX8_tells_24 : decode cX8_tells 24 = .ok (.getfield 20, 3) := by decide +kernel
theorem dX8_tells_27 : decode cX8_tells 27 = .ok (.sipush 1206, 3) := by decide +kernel
theorem dX8_tells_30 : decode cX8_tells 30 = .ok (.iaload, 1) := by decide +kernel
theorem dX8_tells_31 : decode cX8_tells 31 = .ok (.iconst 1, 1) := by decide +kernel
theorem dX8_tells_32 : decode cX8_tells 32 = .ok (.iadd, 1) := by decide +kernel
theorem dX8_tells_33 : decode cX8_tells 33 = .ok (.istore 7, 2) := by decide +kernel
theorem dX8_tells_35 : decode cX8_tells 35 = .ok (.iload 7, 2) := by decide +kernel
theorem dX8_tells_37 : decode cX8_tells 37 = .ok (.aload_n 0, 1) := by decide +kernel
theorem dX8_tells_38 : decode cX8_tells 38 = .ok (.iload_n 1, 1) := by decide +kernel
theorem dX8_tells_39 : decode cX8_tells 39 = .ok (.iconst 3, 1) := by decide +kernel
theorem dX8_tells_40 : decode cX8_tells 40 = .ok (.invokevirtual 225, 3) := by decide +kernel
theorem dX8_tells_43 : decode cX8_tells 43 = .ok (.if_icmp .gt 149, 3) := by decide +kernel
theorem dX8_tells_46 : decode cX8_tells 46 = .ok (.aload_n 0, 1) := by decide +kernel
theorem dX8_tells_47 : decode cX8_tells 47 = .ok (.iload_n 1, 1) := by decide +kernel
theorem dX8_tells_48 : decode cX8_tells 48 = .ok (.iload 7, 2) := by decide +kernel
theorem dX8_tells_50 : decode cX8_tells 50 = .ok (.iload 5, 2) := by decide +kernel
theorem dX8_tells_52 : decode cX8_tells 52 = .ok (.iload 6, 2) := by decide +kernel
theorem dX8_tells_54 : decode cX8_tells 54 = .ok (.iload 7, 2) := by decide +kernel
theorem dX8_tells_56 : decode cX8_tells 56 = .ok (.iload_n 2, 1) := by decide +kernel
theorem dX8_tells_57 : decode cX8_tells 57 = .ok (.if_icmp .ne 7, 3) := by decide +kernel
theorem dX8_tells_60 : decode cX8_tells 60 = .ok (.iload_n 3, 1) := by decide +kernel
theorem dX8_tells_61 : decode cX8_tells 61 = .ok (.goto 10, 3) := by decide +kernel
theorem dX8_tells_64 : decode cX8_tells 64 = .ok (.aload_n 0, 1) := by decide +kernel
theorem dX8_tells_65 : decode cX8_tells 65 = .ok (.iload_n 1, 1) := by decide +kernel
theorem dX8_tells_66 : decode cX8_tells 66 = .ok (.iload 7, 2) := by decide +kernel
theorem dX8_tells_68 : decode cX8_tells 68 = .ok (.invokevirtual 255, 3) := by decide +kernel
theorem dX8_tells_71 : decode cX8_tells 71 = .ok (.invokevirtual 285, 3) := by decide +kernel
theorem dX8_tells_74 : decode cX8_tells 74 = .ok (.pop, 1) := by decide +kernel
theorem dX8_tells_75 : decode cX8_tells 75 = .ok (.bipush 6, 2) := by decide +kernel
theorem dX8_tells_77 : decode cX8_tells 77 = .ok (.iload 7, 2) := by decide +kernel
theorem dX8_tells_79 : decode cX8_tells 79 = .ok (.imul, 1) := by decide +kernel
theorem dX8_tells_80 : decode cX8_tells 80 = .ok (.istore 8, 2) := by decide +kernel
theorem dX8_tells_82 : decode cX8_tells 82 = .ok (.aload_n 0, 1) := by decide +kernel
theorem dX8_tells_83 : decode cX8_tells 83 = .ok (.getfield 36, 3) := by decide +kernel
theorem dX8_tells_86 : decode cX8_tells 86 = .ok (.iload 8, 2) := by decide +kernel
theorem dX8_tells_88 : decode cX8_tells 88 = .ok (.iconst 0, 1) := by decide +kernel
theorem dX8_tells_89 : decode cX8_tells 89 = .ok (.iadd, 1) := by decide +kernel
theorem dX8_tells_90 : decode cX8_tells 90 = .ok (.iload 5, 2) := by decide +kernel
theorem dX8_tells_92 : decode cX8_tells 92 = .ok (.iastore, 1) := by decide +kernel
theorem dX8_tells_93 : decode cX8_tells 93 = .ok (.aload_n 0, 1) := by decide +kernel
theorem dX8_tells_94 : decode cX8_tells 94 = .ok (.getfield 36, 3) := by decide +kernel
theorem dX8_tells_97 : decode cX8_tells 97 = .ok (.iload 8, 2) := by decide +kernel
theorem dX8_tells_99 : decode cX8_tells 99 = .ok (.iconst 1, 1) := by decide +kernel
theorem dX8_tells_100 : decode cX8_tells 100 = .ok (.iadd, 1) := by decide +kernel
theorem dX8_tells_101 : decode cX8_tells 101 = .ok (.iload 5, 2) := by decide +kernel
theorem dX8_tells_103 : decode cX8_tells 103 = .ok (.aload_n 0, 1) := by decide +kernel
theorem dX8_tells_104 : decode cX8_tells 104 = .ok (.iload_n 1, 1) := by decide +kernel
theorem dX8_tells_105 : decode cX8_tells 105 = .ok (.iconst 2, 1) := by decide +kernel
theorem dX8_tells_106 : decode cX8_tells 106 = .ok (.invokevirtual 225, 3) := by decide +kernel
theorem dX8_tells_109 : decode cX8_tells 109 = .ok (.imul, 1) := by decide +kernel
theorem dX8_tells_110 : decode cX8_tells 110 = .ok (.iastore, 1) := by decide +kernel
theorem dX8_tells_111 : decode cX8_tells 111 = .ok (.aload_n 0, 1) := by decide +kernel
theorem dX8_tells_112 : decode cX8_tells 112 = .ok (.getfield 36, 3) := by decide +kernel
theorem dX8_tells_115 : decode cX8_tells 115 = .ok (.iload 8, 2) := by decide +kernel
theorem dX8_tells_117 : decode cX8_tells 117 = .ok (.iconst 2, 1) := by decide +kernel
theorem dX8_tells_118 : decode cX8_tells 118 = .ok (.iadd, 1) := by decide +kernel
theorem dX8_tells_119 : decode cX8_tells 119 = .ok (.aload_n 0, 1) := by decide +kernel
theorem dX8_tells_120 : decode cX8_tells 120 = .ok (.getfield 268, 3) := by decide +kernel
theorem dX8_tells_123 : decode cX8_tells 123 = .ok (.iastore, 1) := by decide +kernel
theorem dX8_tells_124 : decode cX8_tells 124 = .ok (.aload_n 0, 1) := by decide +kernel
theorem dX8_tells_125 : decode cX8_tells 125 = .ok (.getfield 36, 3) := by decide +kernel
theorem dX8_tells_128 : decode cX8_tells 128 = .ok (.iload 8, 2) := by decide +kernel
theorem dX8_tells_130 : decode cX8_tells 130 = .ok (.iconst 3, 1) := by decide +kernel
theorem dX8_tells_131 : decode cX8_tells 131 = .ok (.iadd, 1) := by decide +kernel
theorem dX8_tells_132 : decode cX8_tells 132 = .ok (.aload_n 0, 1) := by decide +kernel
theorem dX8_tells_133 : decode cX8_tells 133 = .ok (.getfield 262, 3) := by decide +kernel
theorem dX8_tells_136 : decode cX8_tells 136 = .ok (.iastore, 1) := by decide +kernel
theorem dX8_tells_137 : decode cX8_tells 137 = .ok (.aload_n 0, 1) := by decide +kernel
theorem dX8_tells_138 : decode cX8_tells 138 = .ok (.getfield 36, 3) := by decide +kernel
theorem dX8_tells_141 : decode cX8_tells 141 = .ok (.iload 8, 2) := by decide +kernel
theorem dX8_tells_143 : decode cX8_tells 143 = .ok (.iconst 4, 1) := by decide +kernel
theorem dX8_tells_144 : decode cX8_tells 144 = .ok (.iadd, 1) := by decide +kernel
theorem dX8_tells_145 : decode cX8_tells 145 = .ok (.aload_n 0, 1) := by decide +kernel
theorem dX8_tells_146 : decode cX8_tells 146 = .ok (.getfield 258, 3) := by decide +kernel
theorem dX8_tells_149 : decode cX8_tells 149 = .ok (.ifCond .eq 7, 3) := by decide +kernel
theorem dX8_tells_152 : decode cX8_tells 152 = .ok (.iconst 1, 1) := by decide +kernel
theorem dX8_tells_153 : decode cX8_tells 153 = .ok (.goto 4, 3) := by decide +kernel
theorem dX8_tells_156 : decode cX8_tells 156 = .ok (.iconst 0, 1) := by decide +kernel
theorem dX8_tells_157 : decode cX8_tells 157 = .ok (.iastore, 1) := by decide +kernel
theorem dX8_tells_158 : decode cX8_tells 158 = .ok (.aload_n 0, 1) := by decide +kernel
theorem dX8_tells_159 : decode cX8_tells 159 = .ok (.getfield 36, 3) := by decide +kernel
theorem dX8_tells_162 : decode cX8_tells 162 = .ok (.iload 8, 2) := by decide +kernel
theorem dX8_tells_164 : decode cX8_tells 164 = .ok (.iconst 5, 1) := by decide +kernel
theorem dX8_tells_165 : decode cX8_tells 165 = .ok (.iadd, 1) := by decide +kernel
theorem dX8_tells_166 : decode cX8_tells 166 = .ok (.aload_n 0, 1) := by decide +kernel
theorem dX8_tells_167 : decode cX8_tells 167 = .ok (.getfield 265, 3) := by decide +kernel
theorem dX8_tells_170 : decode cX8_tells 170 = .ok (.iastore, 1) := by decide +kernel
theorem dX8_tells_171 : decode cX8_tells 171 = .ok (.aload_n 0, 1) := by decide +kernel
theorem dX8_tells_172 : decode cX8_tells 172 = .ok (.getfield 265, 3) := by decide +kernel
theorem dX8_tells_175 : decode cX8_tells 175 = .ok (.istore 6, 2) := by decide +kernel
theorem dX8_tells_177 : decode cX8_tells 177 = .ok (.iload 5, 2) := by decide +kernel
theorem dX8_tells_179 : decode cX8_tells 179 = .ok (.aload_n 0, 1) := by decide +kernel
theorem dX8_tells_180 : decode cX8_tells 180 = .ok (.getfield 268, 3) := by decide +kernel
theorem dX8_tells_183 : decode cX8_tells 183 = .ok (.isub, 1) := by decide +kernel
theorem dX8_tells_184 : decode cX8_tells 184 = .ok (.istore 5, 2) := by decide +kernel
theorem dX8_tells_186 : decode cX8_tells 186 = .ok (.iinc 7 1, 3) := by decide +kernel
theorem dX8_tells_189 : decode cX8_tells 189 = .ok (.goto (-154), 3) := by decide +kernel
theorem dX8_tells_192 : decode cX8_tells 192 = .ok (.return_, 1) := by decide +kernel
abbrev rX8_tells : Room := { frames := 2, cells := 0, slots := 0, locals := 51 }
theorem cal_X8_tells : CalOk yX8_tells cX8_tells 9 none 4 := ⟨wm_6_219, wm_1_9, by decide, by decide, by decide +kernel⟩
def f_X8_tells_157 (r35 : Nat → Int32 → Int32 → Int32 → Int32 → Int32 → Int32 → Mm → Option (Unit × Mm)) (x0 : Nat) (x1 : Int32) (x2 : Int32) (x3 : Int32) (x5 : Int32) (x7 : Int32) (x8 : Int32) (y0 : Int32) (y1 : Int32) (y2 : Nat) (M : Mm) : Option (Unit × Mm) :=
  ck (gK M y2 = 10 ∧ inb y1 (gN M y2)) (nm (sI M y2 (y1).toNatClampNeg y0) fun M1 =>
  ck (gK M1 x0 = 8) (bR (gR M1 x0 27) fun q2 => ck (gK M1 x0 = 8) (ck (gK M1 q2 = 10 ∧ inb (x8 + (5 : Int32)) (gN M1 q2)) (nm (sI M1 q2 ((x8 + (5 : Int32))).toNatClampNeg (gI M1 x0 22)) fun M3 =>
  ck (gK M3 x0 = 8) (nm (gI M3 x0 22) fun v4 =>
  ck (gK M3 x0 = 8) (nm (x5 - (gI M3 x0 19)) fun v5 =>
  r35 x0 x1 x2 x3 v5 v4 (x7 + (1 : Int32)) M3))))))
set_option maxRecDepth 20000 in
set_option maxHeartbeats 4000000 in
theorem s_X8_tells_157 {z : Zt} {K : Unit → Mm → Prop} (hz : Good z RX8 cX8_tells 9 rX8_tells none) (hq : Ret z zU K) {r35 : Nat → Int32 → Int32 → Int32 → Int32 → Int32 → Int32 → Mm → Option (Unit × Mm)} (H35 : ∀ (x0 : Nat) (x1 : Int32) (x2 : Int32) (x3 : Int32) (x5 : Int32) (x6 : Int32) (x7 : Int32) (M : Mm), Sim z 35 [(0, .ref x0), (1, .int x1), (2, .int x2), (3, .int x3), (5, .int x5), (6, .int x6), (7, .int x7)] [] M 0 0 (r35 x0 x1 x2 x3 x5 x6 x7 M) K) : ∀ (x0 : Nat) (x1 : Int32) (x2 : Int32) (x3 : Int32) (x5 : Int32) (x7 : Int32) (x8 : Int32) (y0 : Int32) (y1 : Int32) (y2 : Nat) (M : Mm), Sim z 157 [(0, .ref x0), (1, .int x1), (2, .int x2), (3, .int x3), (5, .int x5), (7, .int x7), (8, .int x8)] [.int y0, .int y1, .ref y2] M 0 0 (f_X8_tells_157 r35 x0 x1 x2 x3 x5 x7 x8 y0 y1 y2 M) K := by
  intro x0 x1 x2 x3 x5 x7 x8 y0 y1 y2 M
  unfold f_X8_tells_157
  refine r_iast hz dX8_tells_157 ?_
  refine r_nmM (fun M1 => ?_)
  refine r_aload_n hz dX8_tells_158 0 rfl ?_
  refine r_getR (j := 27) cl8 hz dX8_tells_159 (by decide) wm_5_83 rfl (fun q2 => ?_)
  refine r_iload hz dX8_tells_162 6 rfl ?_
  refine r_iconst (v := 5) hz dX8_tells_164 rfl ?_
  refine r_iadd hz dX8_tells_165 ?_
  refine r_aload_n hz dX8_tells_166 0 rfl ?_
  refine r_getI (j := 22) cl8 hz dX8_tells_167 (by decide) wm_5_78 rfl ?_
  refine r_iast hz dX8_tells_170 ?_
  refine r_nmM (fun M3 => ?_)
  refine r_aload_n hz dX8_tells_171 0 rfl ?_
  refine r_getI (j := 22) cl8 hz dX8_tells_172 (by decide) wm_5_78 rfl ?_
  refine r_nmi (fun v4 => ?_)
  refine r_istore (lv' := [(6, .int v4), (0, .ref x0), (1, .int x1), (2, .int x2), (3, .int x3), (5, .int x5), (7, .int x7), (8, .int x8)]) hz dX8_tells_175 (by decide) rfl ?_
  refine r_iload hz dX8_tells_177 5 rfl ?_
  refine r_aload_n hz dX8_tells_179 1 rfl ?_
  refine r_getI (j := 19) cl8 hz dX8_tells_180 (by decide) wm_5_75 rfl ?_
  refine r_isub hz dX8_tells_183 ?_
  refine r_nmi (fun v5 => ?_)
  refine r_istore (lv' := [(5, .int v5), (6, .int v4), (0, .ref x0), (1, .int x1), (2, .int x2), (3, .int x3), (7, .int x7), (8, .int x8)]) hz dX8_tells_184 (by decide) rfl ?_
  refine r_iinc (v := (x7 + (1 : Int32))) (lv' := [(7, .int (x7 + (1 : Int32))), (5, .int v5), (6, .int v4), (0, .ref x0), (1, .int x1), (2, .int x2), (3, .int x3), (8, .int x8)]) hz dX8_tells_186 6 rfl rfl (by decide) rfl ?_
  refine r_goto (tgt := 35) hz dX8_tells_189 rfl ?_
  refine r_sub [3, 4, 5, 6, 1, 2, 0] rfl ?_
  exact H35 x0 x1 x2 x3 v5 v4 (x7 + (1 : Int32)) M3
def f_X8_tells_71 (r35 : Nat → Int32 → Int32 → Int32 → Int32 → Int32 → Int32 → Mm → Option (Unit × Mm)) (x0 : Nat) (x1 : Int32) (x2 : Int32) (x3 : Int32) (x5 : Int32) (x7 : Int32) (y0 : Int32) (y1 : Int32) (y2 : Int32) (y3 : Int32) (y4 : Int32) (y5 : Nat) (M : Mm) : Option (Unit × Mm) :=
  ck (gK M y5 = 8) (bd (f_X8_stay y5 y4 y3 y2 y1 y0 M) fun v2 M1 =>
  nm ((6 : Int32) * x7) fun v3 =>
  ck (gK M1 x0 = 8) (bR (gR M1 x0 27) fun q4 => ck (gK M1 q4 = 10 ∧ inb (v3 + (0 : Int32)) (gN M1 q4)) (nm (sI M1 q4 ((v3 + (0 : Int32))).toNatClampNeg x5) fun M5 =>
  ck (gK M5 x0 = 8) (bR (gR M5 x0 27) fun q6 => ck (gK M5 x0 = 8) (bd (f_X8_loanOf x0 x1 (2 : Int32) M5) fun v8 M7 =>
  ck (gK M7 q6 = 10 ∧ inb (v3 + (1 : Int32)) (gN M7 q6)) (nm (sI M7 q6 ((v3 + (1 : Int32))).toNatClampNeg (x5 * v8)) fun M9 =>
  ck (gK M9 x0 = 8) (bR (gR M9 x0 27) fun q10 => ck (gK M9 x0 = 8) (ck (gK M9 q10 = 10 ∧ inb (v3 + (2 : Int32)) (gN M9 q10)) (nm (sI M9 q10 ((v3 + (2 : Int32))).toNatClampNeg (gI M9 x0 19)) fun M11 =>
  ck (gK M11 x0 = 8) (bR (gR M11 x0 27) fun q12 => ck (gK M11 x0 = 8) (ck (gK M11 q12 = 10 ∧ inb (v3 + (3 : Int32)) (gN M11 q12)) (nm (sI M11 q12 ((v3 + (3 : Int32))).toNatClampNeg (gI M11 x0 20)) fun M13 =>
  ck (gK M13 x0 = 8) (bR (gR M13 x0 27) fun q14 => ck (gK M13 x0 = 8) ((if (gI M13 x0 21) = 0 then
    f_X8_tells_157 r35 x0 x1 x2 x3 x5 x7 v3 (0 : Int32) (v3 + (4 : Int32)) q14 M13
  else
    f_X8_tells_157 r35 x0 x1 x2 x3 x5 x7 v3 (1 : Int32) (v3 + (4 : Int32)) q14 M13)))))))))))))))
set_option maxRecDepth 20000 in
set_option maxHeartbeats 4000000 in
theorem s_X8_tells_71 {z : Zt} {K : Unit → Mm → Prop} (hz : Good z RX8 cX8_tells 9 rX8_tells none) (hq : Ret z zU K) {r35 : Nat → Int32 → Int32 → Int32 → Int32 → Int32 → Int32 → Mm → Option (Unit × Mm)} (H35 : ∀ (x0 : Nat) (x1 : Int32) (x2 : Int32) (x3 : Int32) (x5 : Int32) (x6 : Int32) (x7 : Int32) (M : Mm), Sim z 35 [(0, .ref x0), (1, .int x1), (2, .int x2), (3, .int x3), (5, .int x5), (6, .int x6), (7, .int x7)] [] M 0 0 (r35 x0 x1 x2 x3 x5 x6 x7 M) K) : ∀ (x0 : Nat) (x1 : Int32) (x2 : Int32) (x3 : Int32) (x5 : Int32) (x7 : Int32) (y0 : Int32) (y1 : Int32) (y2 : Int32) (y3 : Int32) (y4 : Int32) (y5 : Nat) (M : Mm), Sim z 71 [(0, .ref x0), (1, .int x1), (2, .int x2), (3, .int x3), (5, .int x5), (7, .int x7)] [.int y0, .int y1, .int y2, .int y3, .int y4, .ref y5] M 0 0 (f_X8_tells_71 r35 x0 x1 x2 x3 x5 x7 y0 y1 y2 y3 y4 y5 M) K := by
  intro x0 x1 x2 x3 x5 x7 y0 y1 y2 y3 y4 y5 M
  unfold f_X8_tells_71
  refine r_callVi (As := fun _ => [.int y4, .int y3, .int y2, .int y1, .int y0]) cl8 hz (fun _ _ h => t_X8_stay _ _ _ _ _ _ _ _ _ h) cal_X8_stay dX8_tells_71 wm_6_139 wm_6_141 wm_p_75 rfl rfl (Nat.le_of_ble_eq_true rfl) ⟨(Nat.le_of_ble_eq_true rfl), (Nat.le_of_ble_eq_true rfl)⟩ ⟨(Nat.le_of_ble_eq_true rfl), (Nat.le_of_ble_eq_true rfl)⟩ (fun v2 M1 => ?_)
  refine r_pop hz dX8_tells_74 rfl ?_
  refine r_bipush (v := 6) hz dX8_tells_75 rfl ?_
  refine r_iload hz dX8_tells_77 5 rfl ?_
  refine r_imul hz dX8_tells_79 ?_
  refine r_nmi (fun v3 => ?_)
  refine r_istore (lv' := [(8, .int v3), (0, .ref x0), (1, .int x1), (2, .int x2), (3, .int x3), (5, .int x5), (7, .int x7)]) hz dX8_tells_80 (by decide) rfl ?_
  refine r_aload_n hz dX8_tells_82 1 rfl ?_
  refine r_getR (j := 27) cl8 hz dX8_tells_83 (by decide) wm_5_83 rfl (fun q4 => ?_)
  refine r_iload hz dX8_tells_86 0 rfl ?_
  refine r_iconst (v := 0) hz dX8_tells_88 rfl ?_
  refine r_iadd hz dX8_tells_89 ?_
  refine r_iload hz dX8_tells_90 5 rfl ?_
  refine r_iast hz dX8_tells_92 ?_
  refine r_nmM (fun M5 => ?_)
  refine r_aload_n hz dX8_tells_93 1 rfl ?_
  refine r_getR (j := 27) cl8 hz dX8_tells_94 (by decide) wm_5_83 rfl (fun q6 => ?_)
  refine r_iload hz dX8_tells_97 0 rfl ?_
  refine r_iconst (v := 1) hz dX8_tells_99 rfl ?_
  refine r_iadd hz dX8_tells_100 ?_
  refine r_iload hz dX8_tells_101 5 rfl ?_
  refine r_aload_n hz dX8_tells_103 1 rfl ?_
  refine r_iload_n hz dX8_tells_104 2 rfl ?_
  refine r_iconst (v := 2) hz dX8_tells_105 rfl ?_
  refine r_callVi (As := fun _ => [.int x1, .int (2 : Int32)]) cl8 hz (fun _ _ h => t_X8_loanOf _ _ _ _ _ _ h) cal_X8_loanOf dX8_tells_106 wm_6_68 wm_6_70 wm_p_66 rfl rfl (Nat.le_of_ble_eq_true rfl) ⟨(Nat.le_of_ble_eq_true rfl), (Nat.le_of_ble_eq_true rfl)⟩ ⟨(Nat.le_of_ble_eq_true rfl), (Nat.le_of_ble_eq_true rfl)⟩ (fun v8 M7 => ?_)
  refine r_imul hz dX8_tells_109 ?_
  refine r_iast hz dX8_tells_110 ?_
  refine r_nmM (fun M9 => ?_)
  refine r_aload_n hz dX8_tells_111 1 rfl ?_
  refine r_getR (j := 27) cl8 hz dX8_tells_112 (by decide) wm_5_83 rfl (fun q10 => ?_)
  refine r_iload hz dX8_tells_115 0 rfl ?_
  refine r_iconst (v := 2) hz dX8_tells_117 rfl ?_
  refine r_iadd hz dX8_tells_118 ?_
  refine r_aload_n hz dX8_tells_119 1 rfl ?_
  refine r_getI (j := 19) cl8 hz dX8_tells_120 (by decide) wm_5_75 rfl ?_
  refine r_iast hz dX8_tells_123 ?_
  refine r_nmM (fun M11 => ?_)
  refine r_aload_n hz dX8_tells_124 1 rfl ?_
  refine r_getR (j := 27) cl8 hz dX8_tells_125 (by decide) wm_5_83 rfl (fun q12 => ?_)
  refine r_iload hz dX8_tells_128 0 rfl ?_
  refine r_iconst (v := 3) hz dX8_tells_130 rfl ?_
  refine r_iadd hz dX8_tells_131 ?_
  refine r_aload_n hz dX8_tells_132 1 rfl ?_
  refine r_getI (j := 20) cl8 hz dX8_tells_133 (by decide) wm_5_76 rfl ?_
  refine r_iast hz dX8_tells_136 ?_
  refine r_nmM (fun M13 => ?_)
  refine r_aload_n hz dX8_tells_137 1 rfl ?_
  refine r_getR (j := 27) cl8 hz dX8_tells_138 (by decide) wm_5_83 rfl (fun q14 => ?_)
  refine r_iload hz dX8_tells_141 0 rfl ?_
  refine r_iconst (v := 4) hz dX8_tells_143 rfl ?_
  refine r_iadd hz dX8_tells_144 ?_
  refine r_aload_n hz dX8_tells_145 1 rfl ?_
  refine r_getI (j := 21) cl8 hz dX8_tells_146 (by decide) wm_5_77 rfl ?_
  refine r_if_eq (tgt := 156) hz dX8_tells_149 rfl ?_ ?_
  · refine r_iconst (v := 0) hz dX8_tells_156 rfl ?_
    refine r_sub [1, 2, 3, 4, 5, 6, 0] rfl ?_
    exact s_X8_tells_157 hz hq H35 x0 x1 x2 x3 x5 x7 v3 (0 : Int32) (v3 + (4 : Int32)) q14 M13
  · refine r_iconst (v := 1) hz dX8_tells_152 rfl ?_
    refine r_goto (tgt := 157) hz dX8_tells_153 rfl ?_
    refine r_sub [1, 2, 3, 4, 5, 6, 0] rfl ?_
    exact s_X8_tells_157 hz hq H35 x0 x1 x2 x3 x5 x7 v3 (1 : Int32) (v3 + (4 : Int32)) q14 M13
def f_X8_tells_35 : Nat → Nat → Int32 → Int32 → Int32 → Int32 → Int32 → Int32 → Mm → Option (Unit × Mm)
  | 0, _, _, _, _, _, _, _, _ => none
  | n + 1, x0, x1, x2, x3, x5, x6, x7, M =>
    ck (gK M x0 = 8) (bd (f_X8_loanOf x0 x1 (3 : Int32) M) fun v2 M1 =>
    (if v2 < x7 then
      some ((), M1)
    else
      (if ¬ x7 = x2 then
        ck (gK M1 x0 = 8) (bd (f_X8_priceOf x0 x1 x7 M1) fun v4 M3 =>
        f_X8_tells_71 (f_X8_tells_35 n) x0 x1 x2 x3 x5 x7 v4 x6 x5 x7 x1 x0 M3)
      else
        f_X8_tells_71 (f_X8_tells_35 n) x0 x1 x2 x3 x5 x7 x3 x6 x5 x7 x1 x0 M1)))
set_option maxRecDepth 20000 in
set_option maxHeartbeats 4000000 in
theorem s_X8_tells_35 {z : Zt} {K : Unit → Mm → Prop} (hz : Good z RX8 cX8_tells 9 rX8_tells none) (hq : Ret z zU K) : ∀ (n : Nat) (x0 : Nat) (x1 : Int32) (x2 : Int32) (x3 : Int32) (x5 : Int32) (x6 : Int32) (x7 : Int32) (M : Mm), Sim z 35 [(0, .ref x0), (1, .int x1), (2, .int x2), (3, .int x3), (5, .int x5), (6, .int x6), (7, .int x7)] [] M 0 0 (f_X8_tells_35 n x0 x1 x2 x3 x5 x6 x7 M) K := by
  intro n
  induction n with
  | zero => exact fun _ _ _ _ _ _ _ _ => r_none
  | succ n ih =>
    intro x0 x1 x2 x3 x5 x6 x7 M
    unfold f_X8_tells_35
    refine r_iload hz dX8_tells_35 6 rfl ?_
    refine r_aload_n hz dX8_tells_37 0 rfl ?_
    refine r_iload_n hz dX8_tells_38 1 rfl ?_
    refine r_iconst (v := 3) hz dX8_tells_39 rfl ?_
    refine r_callVi (As := fun _ => [.int x1, .int (3 : Int32)]) cl8 hz (fun _ _ h => t_X8_loanOf _ _ _ _ _ _ h) cal_X8_loanOf dX8_tells_40 wm_6_68 wm_6_70 wm_p_66 rfl rfl (Nat.le_of_ble_eq_true rfl) ⟨(Nat.le_of_ble_eq_true rfl), (Nat.le_of_ble_eq_true rfl)⟩ ⟨(Nat.le_of_ble_eq_true rfl), (Nat.le_of_ble_eq_true rfl)⟩ (fun v2 M1 => ?_)
    refine r_icmp_gt (tgt := 192) hz dX8_tells_43 rfl ?_ ?_
    · exact r_vret hz hq dX8_tells_192 (Nat.le_of_ble_eq_true rfl) (Nat.le_of_ble_eq_true rfl)
    · refine r_aload_n hz dX8_tells_46 0 rfl ?_
      refine r_iload_n hz dX8_tells_47 1 rfl ?_
      refine r_iload hz dX8_tells_48 6 rfl ?_
      refine r_iload hz dX8_tells_50 4 rfl ?_
      refine r_iload hz dX8_tells_52 5 rfl ?_
      refine r_iload hz dX8_tells_54 6 rfl ?_
      refine r_iload_n hz dX8_tells_56 2 rfl ?_
      refine r_icmp_ne (tgt := 64) hz dX8_tells_57 rfl ?_ ?_
      · refine r_aload_n hz dX8_tells_64 0 rfl ?_
        refine r_iload_n hz dX8_tells_65 1 rfl ?_
        refine r_iload hz dX8_tells_66 6 rfl ?_
        refine r_callVi (As := fun _ => [.int x1, .int x7]) cl8 hz (fun _ _ h => t_X8_priceOf _ _ _ _ _ _ h) cal_X8_priceOf dX8_tells_68 wm_6_117 wm_6_119 wm_p_71 rfl rfl (Nat.le_of_ble_eq_true rfl) ⟨(Nat.le_of_ble_eq_true rfl), (Nat.le_of_ble_eq_true rfl)⟩ ⟨(Nat.le_of_ble_eq_true rfl), (Nat.le_of_ble_eq_true rfl)⟩ (fun v4 M3 => ?_)
        refine r_sub [0, 1, 2, 3, 4, 6] rfl ?_
        exact s_X8_tells_71 hz hq ih x0 x1 x2 x3 x5 x7 v4 x6 x5 x7 x1 x0 M3
      · refine r_iload_n hz dX8_tells_60 3 rfl ?_
        refine r_goto (tgt := 71) hz dX8_tells_61 rfl ?_
        refine r_sub [0, 1, 2, 3, 4, 6] rfl ?_
        exact s_X8_tells_71 hz hq ih x0 x1 x2 x3 x5 x7 x3 x6 x5 x7 x1 x0 M1
def f_X8_tells (p0 : Nat) (p1 : Int32) (p2 : Int32) (p3 : Int32) (p4 : Int32) (M : Mm) : Option (Unit × Mm) :=
  ck (gK M p0 = 8) (bd (f_X8_howMany p0 p1 (0 : Int32) M) fun v2 M1 =>
  ck (gK M1 p0 = 8) (bR (gR M1 p0 17) fun q3 => ck (gK M1 q3 = 10 ∧ inb ((1211 : Int32) + p1) (gN M1 q3)) (nm ((gI M1 q3 (((1211 : Int32) + p1)).toNatClampNeg) + p4) fun v4 =>
  ck (gK M1 p0 = 8) (bR (gR M1 p0 17) fun q5 => ck (gK M1 q5 = 10 ∧ inb (1206 : Int32) (gN M1 q5)) (nm ((gI M1 q5 ((1206 : Int32)).toNatClampNeg) + (1 : Int32)) fun v6 =>
  f_X8_tells_35 FU p0 p1 p2 p3 v2 v4 v6 M1)))))
set_option maxRecDepth 20000 in
set_option maxHeartbeats 4000000 in
theorem t_X8_tells (p0 : Nat) (p1 : Int32) (p2 : Int32) (p3 : Int32) (p4 : Int32) (M : Mm) (x : Unit) (M' : Mm) (h : f_X8_tells p0 p1 p2 p3 p4 M = some (x, M')) : Ctr yX8_tells cX8_tells 9 none rX8_tells (fun _ => [.ref p0, .int p1, .int p2, .int p3, .int p4]) M (zU x) M' := by
  refine ctr_of (plainFor_of_name (by decide)) (fun _ => Nat.le_of_ble_eq_true rfl) (fun z hz hin hq => ?_)
  have key : Sim z 0 [(0, .ref p0), (1, .int p1), (2, .int p2), (3, .int p3), (4, .int p4)] [] M 0 0 (f_X8_tells p0 p1 p2 p3 p4 M) (fun a b => a = x ∧ b = M') := by
    have hq : Ret z zU (fun a b => a = x ∧ b = M') := fun a b e => by rw [e.1, e.2]; exact hq
    unfold f_X8_tells
    refine r_aload_n hz dX8_tells_0 0 rfl ?_
    refine r_iload_n hz dX8_tells_1 1 rfl ?_
    refine r_iconst (v := 0) hz dX8_tells_2 rfl ?_
    refine r_callVi (As := fun _ => [.int p1, .int (0 : Int32)]) cl8 hz (fun _ _ h => t_X8_howMany _ _ _ _ _ _ h) cal_X8_howMany dX8_tells_3 wm_6_64 wm_6_66 wm_p_65 rfl rfl (Nat.le_of_ble_eq_true rfl) ⟨(Nat.le_of_ble_eq_true rfl), (Nat.le_of_ble_eq_true rfl)⟩ ⟨(Nat.le_of_ble_eq_true rfl), (Nat.le_of_ble_eq_true rfl)⟩ (fun v2 M1 => ?_)
    refine r_istore (lv' := [(5, .int v2), (0, .ref p0), (1, .int p1), (2, .int p2), (3, .int p3), (4, .int p4)]) hz dX8_tells_6 (by decide) rfl ?_
    refine r_aload_n hz dX8_tells_8 1 rfl ?_
    refine r_getR (j := 17) cl8 hz dX8_tells_9 (by decide) wm_5_73 rfl (fun q3 => ?_)
    refine r_sipush (v := 1211) hz dX8_tells_12 rfl ?_
    refine r_iload_n hz dX8_tells_15 2 rfl ?_
    refine r_iadd hz dX8_tells_16 ?_
    refine r_iald hz dX8_tells_17 ?_
    refine r_iload hz dX8_tells_18 5 rfl ?_
    refine r_iadd hz dX8_tells_20 ?_
    refine r_nmi (fun v4 => ?_)
    refine r_istore (lv' := [(6, .int v4), (5, .int v2), (0, .ref p0), (1, .int p1), (2, .int p2), (3, .int p3), (4, .int p4)]) hz dX8_tells_21 (by decide) rfl ?_
    refine r_aload_n hz dX8_tells_23 2 rfl ?_
    refine r_getR (j := 17) cl8 hz dX8_tells_24 (by decide) wm_5_73 rfl (fun q5 => ?_)
    refine r_sipush (v := 1206) hz dX8_tells_27 rfl ?_
    refine r_iald hz dX8_tells_30 ?_
    refine r_iconst (v := 1) hz dX8_tells_31 rfl ?_
    refine r_iadd hz dX8_tells_32 ?_
    refine r_nmi (fun v6 => ?_)
    refine r_istore (lv' := [(7, .int v6), (6, .int v4), (5, .int v2), (0, .ref p0), (1, .int p1), (2, .int p2), (3, .int p3), (4, .int p4)]) hz dX8_tells_33 (by decide) rfl ?_
    refine r_sub [3, 4, 5, 6, 2, 1, 0] rfl ?_
    exact s_X8_tells_35 hz hq FU p0 p1 p2 p3 v2 v4 v6 M1
  exact key x M' h ⟨rfl, rfl⟩
theorem dX8_tells__0 : decode cX8_tells_ 0 = .ok (.aload_n 0, 1) := by decide +kernel
theorem dX8_tells__1 : decode cX8_tells_ 1 = .ok (.iload_n 1, 1) := by decide +kernel
theorem dX8_tells__2 : decode cX8_tells_ 2 = .ok (.iconst 0, 1) := by decide +kernel
theorem dX8_tells__3 : decode cX8_tells_ 3 = .ok (.iconst 0, 1) := by decide +kernel
theorem dX8_tells__4 : decode cX8_tells_ 4 = .ok (.iconst 0, 1) := by decide +kernel
theorem dX8_tells__5 : decode cX8_tells_ 5 = .ok (.invokevirtual 327, 3) := by decide +kernel
theorem dX8_tells__8 : decode cX8_tells_ 8 = .ok (.return_, 1) := by decide +kernel
abbrev rX8_tells_ : Room := { frames := 3, cells := 0, slots := 0, locals := 79 }
theorem cal_X8_tells_ : CalOk yX8_tells_ cX8_tells_ 2 none 1 := ⟨wm_6_215, wm_1_9, by decide, by decide, by decide +kernel⟩
def f_X8_tells_ (p0 : Nat) (p1 : Int32) (M : Mm) : Option (Unit × Mm) :=
  ck (gK M p0 = 8) (bd (f_X8_tells p0 p1 (0 : Int32) (0 : Int32) (0 : Int32) M) fun _ M1 =>
  some ((), M1))
set_option maxRecDepth 20000 in
set_option maxHeartbeats 4000000 in
theorem t_X8_tells_ (p0 : Nat) (p1 : Int32) (M : Mm) (x : Unit) (M' : Mm) (h : f_X8_tells_ p0 p1 M = some (x, M')) : Ctr yX8_tells_ cX8_tells_ 2 none rX8_tells_ (fun _ => [.ref p0, .int p1]) M (zU x) M' := by
  refine ctr_of (plainFor_of_name (by decide)) (fun _ => Nat.le_of_ble_eq_true rfl) (fun z hz hin hq => ?_)
  have key : Sim z 0 [(0, .ref p0), (1, .int p1)] [] M 0 0 (f_X8_tells_ p0 p1 M) (fun a b => a = x ∧ b = M') := by
    have hq : Ret z zU (fun a b => a = x ∧ b = M') := fun a b e => by rw [e.1, e.2]; exact hq
    unfold f_X8_tells_
    refine r_aload_n hz dX8_tells__0 0 rfl ?_
    refine r_iload_n hz dX8_tells__1 1 rfl ?_
    refine r_iconst (v := 0) hz dX8_tells__2 rfl ?_
    refine r_iconst (v := 0) hz dX8_tells__3 rfl ?_
    refine r_iconst (v := 0) hz dX8_tells__4 rfl ?_
    refine r_callVv (As := fun _ => [.int p1, .int (0 : Int32), .int (0 : Int32), .int (0 : Int32)]) cl8 hz (fun _ _ h => t_X8_tells _ _ _ _ _ _ _ _ h) cal_X8_tells dX8_tells__5 wm_6_216 wm_6_218 wm_p_83 rfl rfl (Nat.le_of_ble_eq_true rfl) ⟨(Nat.le_of_ble_eq_true rfl), (Nat.le_of_ble_eq_true rfl)⟩ ⟨(Nat.le_of_ble_eq_true rfl), (Nat.le_of_ble_eq_true rfl)⟩ (fun _ M1 => ?_)
    exact r_vret hz hq dX8_tells__8 (Nat.le_of_ble_eq_true rfl) (Nat.le_of_ble_eq_true rfl)
  exact key x M' h ⟨rfl, rfl⟩
theorem dX8_row_0 : decode cX8_row 0 = .ok (.aload_n 0, 1) := by decide +kernel
theorem dX8_row_1 : decode cX8_row 1 = .ok (.iconst 0, 1) := by decide +kernel
theorem dX8_row_2 : decode cX8_row 2 = .ok (.putfield 46, 3) := by decide +kernel
theorem dX8_row_5 : decode cX8_row 5 = .ok (.aload_n 0, 1) := by decide +kernel
theorem dX8_row_6 : decode cX8_row 6 = .ok (.iload_n 1, 1) := by decide +kernel
theorem dX8_row_7 : decode cX8_row 7 = .ok (.iload_n 2, 1) := by decide +kernel
theorem dX8_row_8 : decode cX8_row 8 = .ok (.invokevirtual 317, 3) := by decide +kernel
theorem dX8_row_11 : decode cX8_row 11 = .ok (.ifCond .eq 15, 3) := by decide +kernel
theorem dX8_row_14 : decode cX8_row 14 = .ok (.iload_n 3, 1) := by decide +kernel
theorem dX8_row_15 : decode cX8_row 15 = .ok (.i2l, 1) := by decide +kernel
theorem dX8_row_16 : decode cX8_row 16 = .ok (.lconst 0, 1) := by decide +kernel
theorem dX8_row_17 : decode cX8_row 17 = .ok (.ldc2_w 331, 3) := by decide +kernel
theorem dX8_row_20 : decode cX8_row 20 = .ok (.invokestatic 83, 3) := by decide +kernel
theorem dX8_row_23 : decode cX8_row 23 = .ok (.ifCond .ne 5, 3) := by decide +kernel
theorem dX8_row_26 : decode cX8_row 26 = .ok (.iconst (-1), 1) := by decide +kernel
theorem dX8_row_27 : decode cX8_row 27 = .ok (.ireturn, 1) := by decide +kernel
theorem dX8_row_28 : decode cX8_row 28 = .ok (.aload_n 0, 1) := by decide +kernel
theorem dX8_row_29 : decode cX8_row 29 = .ok (.iload_n 1, 1) := by decide +kernel
theorem dX8_row_30 : decode cX8_row 30 = .ok (.invokevirtual 333, 3) := by decide +kernel
theorem dX8_row_33 : decode cX8_row 33 = .ok (.aload_n 0, 1) := by decide +kernel
theorem dX8_row_34 : decode cX8_row 34 = .ok (.getfield 36, 3) := by decide +kernel
theorem dX8_row_37 : decode cX8_row 37 = .ok (.bipush 6, 2) := by decide +kernel
theorem dX8_row_39 : decode cX8_row 39 = .ok (.iload_n 2, 1) := by decide +kernel
theorem dX8_row_40 : decode cX8_row 40 = .ok (.imul, 1) := by decide +kernel
theorem dX8_row_41 : decode cX8_row 41 = .ok (.iload_n 3, 1) := by decide +kernel
theorem dX8_row_42 : decode cX8_row 42 = .ok (.iadd, 1) := by decide +kernel
theorem dX8_row_43 : decode cX8_row 43 = .ok (.iaload, 1) := by decide +kernel
theorem dX8_row_44 : decode cX8_row 44 = .ok (.ireturn, 1) := by decide +kernel
abbrev rX8_row : Room := { frames := 4, cells := 0, slots := 0, locals := 100 }
theorem cal_X8_row : CalOk yX8_row cX8_row 4 (some .int) 3 := ⟨wm_6_210, wm_1_9, by decide, by decide, by decide +kernel⟩
def f_X8_row (p0 : Nat) (p1 : Int32) (p2 : Int32) (p3 : Int32) (M : Mm) : Option (Int32 × Mm) :=
  ck (gK M p0 = 8) (nm (sI M p0 0 (0 : Int32)) fun M1 =>
  ck (gK M1 p0 = 8) (bd (f_X8_isToCome p0 p1 p2 M1) fun v3 M2 =>
  (if v3 = 0 then
    some ((-1 : Int32), M2)
  else
    bd (f_X8_within (p3).toInt64 (0 : Int64) (5 : Int64) M2) fun v5 M4 =>
    (if ¬ v5 = 0 then
      ck (gK M4 p0 = 8) (bd (f_X8_tells_ p0 p1 M4) fun _ M6 =>
      ck (gK M6 p0 = 8) (bR (gR M6 p0 27) fun q7 => ck (gK M6 q7 = 10 ∧ inb (((6 : Int32) * p2) + p3) (gN M6 q7)) (some ((gI M6 q7 ((((6 : Int32) * p2) + p3)).toNatClampNeg), M6))))
    else
      some ((-1 : Int32), M4)))))
set_option maxRecDepth 20000 in
set_option maxHeartbeats 4000000 in
theorem t_X8_row (p0 : Nat) (p1 : Int32) (p2 : Int32) (p3 : Int32) (M : Mm) (x : Int32) (M' : Mm) (h : f_X8_row p0 p1 p2 p3 M = some (x, M')) : Ctr yX8_row cX8_row 4 (some .int) rX8_row (fun _ => [.ref p0, .int p1, .int p2, .int p3]) M (zI x) M' := by
  refine ctr_of (plainFor_of_name (by decide)) (fun _ => Nat.le_of_ble_eq_true rfl) (fun z hz hin hq => ?_)
  have key : Sim z 0 [(0, .ref p0), (1, .int p1), (2, .int p2), (3, .int p3)] [] M 0 0 (f_X8_row p0 p1 p2 p3 M) (fun a b => a = x ∧ b = M') := by
    have hq : Ret z zI (fun a b => a = x ∧ b = M') := fun a b e => by rw [e.1, e.2]; exact hq
    unfold f_X8_row
    refine r_aload_n hz dX8_row_0 0 rfl ?_
    refine r_iconst (v := 0) hz dX8_row_1 rfl ?_
    refine r_putI (j := 0) cl8 hz dX8_row_2 (by decide) wm_5_56 (Or.inl rfl) rfl rfl rfl ?_
    refine r_nmM (fun M1 => ?_)
    refine r_aload_n hz dX8_row_5 0 rfl ?_
    refine r_iload_n hz dX8_row_6 1 rfl ?_
    refine r_iload_n hz dX8_row_7 2 rfl ?_
    refine r_callVi (As := fun _ => [.int p1, .int p2]) cl8 hz (fun _ _ h => t_X8_isToCome _ _ _ _ _ _ h) cal_X8_isToCome dX8_row_8 wm_6_186 wm_6_188 wm_p_81 rfl rfl (Nat.le_of_ble_eq_true rfl) ⟨(Nat.le_of_ble_eq_true rfl), (Nat.le_of_ble_eq_true rfl)⟩ ⟨(Nat.le_of_ble_eq_true rfl), (Nat.le_of_ble_eq_true rfl)⟩ (fun v3 M2 => ?_)
    refine r_if_eq (tgt := 26) hz dX8_row_11 rfl ?_ ?_
    · refine r_iconst (v := -1) hz dX8_row_26 rfl ?_
      exact r_iret hz hq dX8_row_27 (Nat.le_of_ble_eq_true rfl) (Nat.le_of_ble_eq_true rfl)
    · refine r_iload_n hz dX8_row_14 3 rfl ?_
      refine r_i2l hz dX8_row_15 ?_
      refine r_lconst (v := 0) hz dX8_row_16 rfl ?_
      refine r_ldc2 (v := 5) hz dX8_row_17 wm_6_211 ?_
      refine r_callSi (As := fun _ => [.long (p3).toInt64, .long (0 : Int64), .long (5 : Int64)]) hz (fun _ _ h => t_X8_within _ _ _ _ _ _ h) cal_X8_within dX8_row_20 wm_5_175 wm_5_176 rfl rfl (Nat.le_of_ble_eq_true rfl) ⟨(Nat.le_of_ble_eq_true rfl), (Nat.le_of_ble_eq_true rfl)⟩ ⟨(Nat.le_of_ble_eq_true rfl), (Nat.le_of_ble_eq_true rfl)⟩ (fun v5 M4 => ?_)
      refine r_if_ne (tgt := 28) hz dX8_row_23 rfl ?_ ?_
      · refine r_aload_n hz dX8_row_28 0 rfl ?_
        refine r_iload_n hz dX8_row_29 1 rfl ?_
        refine r_callVv (As := fun _ => [.int p1]) cl8 hz (fun _ _ h => t_X8_tells_ _ _ _ _ _ h) cal_X8_tells_ dX8_row_30 wm_6_212 wm_6_214 wm_p_82 rfl rfl (Nat.le_of_ble_eq_true rfl) ⟨(Nat.le_of_ble_eq_true rfl), (Nat.le_of_ble_eq_true rfl)⟩ ⟨(Nat.le_of_ble_eq_true rfl), (Nat.le_of_ble_eq_true rfl)⟩ (fun _ M6 => ?_)
        refine r_aload_n hz dX8_row_33 0 rfl ?_
        refine r_getR (j := 27) cl8 hz dX8_row_34 (by decide) wm_5_83 rfl (fun q7 => ?_)
        refine r_bipush (v := 6) hz dX8_row_37 rfl ?_
        refine r_iload_n hz dX8_row_39 2 rfl ?_
        refine r_imul hz dX8_row_40 ?_
        refine r_iload_n hz dX8_row_41 3 rfl ?_
        refine r_iadd hz dX8_row_42 ?_
        refine r_iald hz dX8_row_43 ?_
        exact r_iret hz hq dX8_row_44 (Nat.le_of_ble_eq_true rfl) (Nat.le_of_ble_eq_true rfl)
      · refine r_iconst (v := -1) hz dX8_row_26 rfl ?_
        exact r_iret hz hq dX8_row_27 (Nat.le_of_ble_eq_true rfl) (Nat.le_of_ble_eq_true rfl)
  exact key x M' h ⟨rfl, rfl⟩
theorem dX8_paidIn_0 : decode cX8_paidIn 0 = .ok (.bipush 6, 2) := by decide +kernel
theorem dX8_paidIn_2 : decode cX8_paidIn 2 = .ok (.iload_n 2, 1) := by decide +kernel
theorem dX8_paidIn_3 : decode cX8_paidIn 3 = .ok (.imul, 1) := by decide +kernel
theorem dX8_paidIn_4 : decode cX8_paidIn 4 = .ok (.istore_n 3, 1) := by decide +kernel
theorem dX8_paidIn_5 : decode cX8_paidIn 5 = .ok (.aload_n 0, 1) := by decide +kernel
theorem dX8_paidIn_6 : decode cX8_paidIn 6 = .ok (.getfield 36, 3) := by decide +kernel
theorem dX8_paidIn_9 : decode cX8_paidIn 9 = .ok (.iload_n 3, 1) := by decide +kernel
theorem dX8_paidIn_10 : decode cX8_paidIn 10 = .ok (.iconst 1, 1) := by decide +kernel
theorem dX8_paidIn_11 : decode cX8_paidIn 11 = .ok (.iadd, 1) := by decide +kernel
theorem dX8_paidIn_12 : decode cX8_paidIn 12 = .ok (.iaload, 1) := by decide +kernel
theorem dX8_paidIn_13 : decode cX8_paidIn 13 = .ok (.i2l, 1) := by decide +kernel
theorem dX8_paidIn_14 : decode cX8_paidIn 14 = .ok (.aload_n 0, 1) := by decide +kernel
theorem dX8_paidIn_15 : decode cX8_paidIn 15 = .ok (.getfield 36, 3) := by decide +kernel
theorem dX8_paidIn_18 : decode cX8_paidIn 18 = .ok (.iload_n 3, 1) := by decide +kernel
theorem dX8_paidIn_19 : decode cX8_paidIn 19 = .ok (.iconst 2, 1) := by decide +kernel
theorem dX8_paidIn_20 : decode cX8_paidIn 20 = .ok (.iadd, 1) := by decide +kernel
theorem dX8_paidIn_21 : decode cX8_paidIn 21 = .ok (.iaload, 1) := by decide +kernel
theorem dX8_paidIn_22 : decode cX8_paidIn 22 = .ok (.i2l, 1) := by decide +kernel
theorem dX8_paidIn_23 : decode cX8_paidIn 23 = .ok (.aload_n 0, 1) := by decide +kernel
theorem dX8_paidIn_24 : decode cX8_paidIn 24 = .ok (.getfield 36, 3) := by decide +kernel
theorem dX8_paidIn_27 : decode cX8_paidIn 27 = .ok (.iload_n 3, 1) := by decide +kernel
theorem dX8_paidIn_28 : decode cX8_paidIn 28 = .ok (.iconst 3, 1) := by decide +kernel
theorem dX8_paidIn_29 : decode cX8_paidIn 29 = .ok (.iadd, 1) := by decide +kernel
theorem dX8_paidIn_30 : decode cX8_paidIn 30 = .ok (.iaload, 1) := by decide +kernel
theorem dX8_paidIn_31 : decode cX8_paidIn 31 = .ok (.i2l, 1) := by decide +kernel
theorem dX8_paidIn_32 : decode cX8_paidIn 32 = .ok (.lmul, 1) := by decide +kernel
theorem dX8_paidIn_33 : decode cX8_paidIn 33 = .ok (.ladd, 1) := by decide +kernel
theorem dX8_paidIn_34 : decode cX8_paidIn 34 = .ok (.lstore 4, 2) := by decide +kernel
theorem dX8_paidIn_36 : decode cX8_paidIn 36 = .ok (.iconst 1, 1) := by decide +kernel
theorem dX8_paidIn_37 : decode cX8_paidIn 37 = .ok (.istore 6, 2) := by decide +kernel
theorem dX8_paidIn_39 : decode cX8_paidIn 39 = .ok (.iload 6, 2) := by decide +kernel
theorem dX8_paidIn_41 : decode cX8_paidIn 41 = .ok (.aload_n 0, 1) := by decide +kernel
theorem dX8_paidIn_42 : decode cX8_paidIn 42 = .ok (.getfield 36, 3) := by decide +kernel
theorem dX8_paidIn_45 : decode cX8_paidIn 45 = .ok (.iload_n 3, 1) := by decide +kernel
theorem dX8_paidIn_46 : decode cX8_paidIn 46 = .ok (.iconst 2, 1) := by decide +kernel
theorem dX8_paidIn_47 : decode cX8_paidIn 47 = .ok (.iadd, 1) := by decide +kernel
theorem dX8_paidIn_48 : decode cX8_paidIn 48 = .ok (.iaload, 1) := by decide +kernel
theorem dX8_paidIn_49 : decode cX8_paidIn 49 = .ok (.if_icmp .gt 45, 3) := by decide +kernel
theorem dX8_paidIn_52 : decode cX8_paidIn 52 = .ok (.iload 6, 2) := by decide +kernel
theorem dX8_paidIn_54 : decode cX8_paidIn 54 = .ok (.bipush 9, 2) := by decide +kernel
theorem dX8_paidIn_56 : decode cX8_paidIn 56 = .ok (.if_icmp .gt 38, 3) := by decide +kernel
theorem dX8_paidIn_59 : decode cX8_paidIn 59 = .ok (.lload 4, 2) := by decide +kernel
theorem dX8_paidIn_61 : decode cX8_paidIn 61 = .ok (.aload_n 0, 1) := by decide +kernel
theorem dX8_paidIn_62 : decode cX8_paidIn 62 = .ok (.getfield 36, 3) := by decide +kernel
theorem dX8_paidIn_65 : decode cX8_paidIn 65 = .ok (.iload_n 3, 1) := by decide +kernel
theorem dX8_paidIn_66 : decode cX8_paidIn 66 = .ok (.iconst 4, 1) := by decide +kernel
theorem dX8_paidIn_67 : decode cX8_paidIn 67 = .ok (.iadd, 1) := by decide +kernel
theorem dX8_paidIn_68 : decode cX8_paidIn 68 = .ok (.iaload, 1) := by decide +kernel
theorem dX8_paidIn_69 : decode cX8_paidIn 69 = .ok (.iconst 1, 1) := by decide +kernel
theorem dX8_paidIn_70 : decode cX8_paidIn 70 = .ok (.if_icmp .ne 7, 3) := by decide +kernel
theorem dX8_paidIn_73 : decode cX8_paidIn 73 = .ok (.lconst 0, 1) := by decide +kernel
theorem dX8_paidIn_74 : decode cX8_paidIn 74 = .ok (.goto 11, 3) := by decide +kernel
theorem dX8_paidIn_77 : decode cX8_paidIn 77 = .ok (.aload_n 0, 1) := by decide +kernel
theorem dX8_paidIn_78 : decode cX8_paidIn 78 = .ok (.iload_n 1, 1) := by decide +kernel
theorem dX8_paidIn_79 : decode cX8_paidIn 79 = .ok (.iload 6, 2) := by decide +kernel
theorem dX8_paidIn_81 : decode cX8_paidIn 81 = .ok (.invokevirtual 274, 3) := by decide +kernel
theorem dX8_paidIn_84 : decode cX8_paidIn 84 = .ok (.i2l, 1) := by decide +kernel
theorem dX8_paidIn_85 : decode cX8_paidIn 85 = .ok (.ladd, 1) := by decide +kernel
theorem dX8_paidIn_86 : decode cX8_paidIn 86 = .ok (.lstore 4, 2) := by decide +kernel
theorem dX8_paidIn_88 : decode cX8_paidIn 88 = .ok (.iinc 6 1, 3) := by decide +kernel
theorem dX8_paidIn_91 : decode cX8_paidIn 91 = .ok (.goto (-52), 3) := by decide +kernel
theorem dX8_paidIn_94 : decode cX8_paidIn 94 = .ok (.lload 4, 2) := by decide +kernel
theorem dX8_paidIn_96 : decode cX8_paidIn 96 = .ok (.lreturn, 1) := by decide +kernel
abbrev rX8_paidIn : Room := { frames := 1, cells := 0, slots := 0, locals := 22 }
theorem cal_X8_paidIn : CalOk yX8_paidIn cX8_paidIn 7 (some .long) 2 := ⟨wm_6_228, wm_1_9, by decide, by decide, by decide +kernel⟩
def f_X8_paidIn_39 : Nat → Nat → Int32 → Int32 → Int64 → Int32 → Mm → Option (Int64 × Mm)
  | 0, _, _, _, _, _, _ => none
  | n + 1, x0, x1, x3, x4, x6, M =>
    ck (gK M x0 = 8) (bR (gR M x0 27) fun q1 => ck (gK M q1 = 10 ∧ inb (x3 + (2 : Int32)) (gN M q1)) ((if (gI M q1 ((x3 + (2 : Int32))).toNatClampNeg) < x6 then
      some (x4, M)
    else
      (if (9 : Int32) < x6 then
        some (x4, M)
      else
        ck (gK M x0 = 8) (bR (gR M x0 27) fun q2 => ck (gK M q2 = 10 ∧ inb (x3 + (4 : Int32)) (gN M q2)) ((if ¬ (gI M q2 ((x3 + (4 : Int32))).toNatClampNeg) = (1 : Int32) then
          ck (gK M x0 = 8) (bd (f_X8_prizeOf x0 x1 x6 M) fun v4 M3 =>
          nm (x4 + (v4).toInt64) fun v5 =>
          f_X8_paidIn_39 n x0 x1 x3 v5 (x6 + (1 : Int32)) M3)
        else
          nm (x4 + (0 : Int64)) fun v7 =>
          f_X8_paidIn_39 n x0 x1 x3 v7 (x6 + (1 : Int32)) M)))))))
set_option maxRecDepth 20000 in
set_option maxHeartbeats 4000000 in
theorem s_X8_paidIn_39 {z : Zt} {K : Int64 → Mm → Prop} (hz : Good z RX8 cX8_paidIn 7 rX8_paidIn (some .long)) (hq : Ret z zL K) : ∀ (n : Nat) (x0 : Nat) (x1 : Int32) (x3 : Int32) (x4 : Int64) (x6 : Int32) (M : Mm), Sim z 39 [(0, .ref x0), (1, .int x1), (3, .int x3), (4, .long x4), (6, .int x6)] [] M 0 0 (f_X8_paidIn_39 n x0 x1 x3 x4 x6 M) K := by
  intro n
  induction n with
  | zero => exact fun _ _ _ _ _ _ => r_none
  | succ n ih =>
    intro x0 x1 x3 x4 x6 M
    unfold f_X8_paidIn_39
    refine r_iload hz dX8_paidIn_39 4 rfl ?_
    refine r_aload_n hz dX8_paidIn_41 0 rfl ?_
    refine r_getR (j := 27) cl8 hz dX8_paidIn_42 (by decide) wm_5_83 rfl (fun q1 => ?_)
    refine r_iload_n hz dX8_paidIn_45 2 rfl ?_
    refine r_iconst (v := 2) hz dX8_paidIn_46 rfl ?_
    refine r_iadd hz dX8_paidIn_47 ?_
    refine r_iald hz dX8_paidIn_48 ?_
    refine r_icmp_gt (tgt := 94) hz dX8_paidIn_49 rfl ?_ ?_
    · refine r_lload hz dX8_paidIn_94 3 rfl ?_
      exact r_lret hz hq dX8_paidIn_96 (Nat.le_of_ble_eq_true rfl) (Nat.le_of_ble_eq_true rfl)
    · refine r_iload hz dX8_paidIn_52 4 rfl ?_
      refine r_bipush (v := 9) hz dX8_paidIn_54 rfl ?_
      refine r_icmp_gt (tgt := 94) hz dX8_paidIn_56 rfl ?_ ?_
      · refine r_lload hz dX8_paidIn_94 3 rfl ?_
        exact r_lret hz hq dX8_paidIn_96 (Nat.le_of_ble_eq_true rfl) (Nat.le_of_ble_eq_true rfl)
      · refine r_lload hz dX8_paidIn_59 3 rfl ?_
        refine r_aload_n hz dX8_paidIn_61 0 rfl ?_
        refine r_getR (j := 27) cl8 hz dX8_paidIn_62 (by decide) wm_5_83 rfl (fun q2 => ?_)
        refine r_iload_n hz dX8_paidIn_65 2 rfl ?_
        refine r_iconst (v := 4) hz dX8_paidIn_66 rfl ?_
        refine r_iadd hz dX8_paidIn_67 ?_
        refine r_iald hz dX8_paidIn_68 ?_
        refine r_iconst (v := 1) hz dX8_paidIn_69 rfl ?_
        refine r_icmp_ne (tgt := 77) hz dX8_paidIn_70 rfl ?_ ?_
        · refine r_aload_n hz dX8_paidIn_77 0 rfl ?_
          refine r_iload_n hz dX8_paidIn_78 1 rfl ?_
          refine r_iload hz dX8_paidIn_79 4 rfl ?_
          refine r_callVi (As := fun _ => [.int x1, .int x6]) cl8 hz (fun _ _ h => t_X8_prizeOf _ _ _ _ _ _ h) cal_X8_prizeOf dX8_paidIn_81 wm_6_164 wm_6_166 wm_p_80 rfl rfl (Nat.le_of_ble_eq_true rfl) ⟨(Nat.le_of_ble_eq_true rfl), (Nat.le_of_ble_eq_true rfl)⟩ ⟨(Nat.le_of_ble_eq_true rfl), (Nat.le_of_ble_eq_true rfl)⟩ (fun v4 M3 => ?_)
          refine r_i2l hz dX8_paidIn_84 ?_
          refine r_ladd hz dX8_paidIn_85 ?_
          refine r_nml (fun v5 => ?_)
          refine r_lstore (lv' := [(4, .long v5), (0, .ref x0), (1, .int x1), (3, .int x3), (6, .int x6)]) hz dX8_paidIn_86 (by decide) rfl ?_
          refine r_iinc (v := (x6 + (1 : Int32))) (lv' := [(6, .int (x6 + (1 : Int32))), (4, .long v5), (0, .ref x0), (1, .int x1), (3, .int x3)]) hz dX8_paidIn_88 4 rfl rfl (by decide) rfl ?_
          refine r_goto (tgt := 39) hz dX8_paidIn_91 rfl ?_
          refine r_sub [2, 3, 4, 1, 0] rfl ?_
          exact ih x0 x1 x3 v5 (x6 + (1 : Int32)) M3
        · refine r_lconst (v := 0) hz dX8_paidIn_73 rfl ?_
          refine r_goto (tgt := 85) hz dX8_paidIn_74 rfl ?_
          refine r_ladd hz dX8_paidIn_85 ?_
          refine r_nml (fun v7 => ?_)
          refine r_lstore (lv' := [(4, .long v7), (0, .ref x0), (1, .int x1), (3, .int x3), (6, .int x6)]) hz dX8_paidIn_86 (by decide) rfl ?_
          refine r_iinc (v := (x6 + (1 : Int32))) (lv' := [(6, .int (x6 + (1 : Int32))), (4, .long v7), (0, .ref x0), (1, .int x1), (3, .int x3)]) hz dX8_paidIn_88 4 rfl rfl (by decide) rfl ?_
          refine r_goto (tgt := 39) hz dX8_paidIn_91 rfl ?_
          refine r_sub [2, 3, 4, 1, 0] rfl ?_
          exact ih x0 x1 x3 v7 (x6 + (1 : Int32)) M
def f_X8_paidIn (p0 : Nat) (p1 : Int32) (p2 : Int32) (M : Mm) : Option (Int64 × Mm) :=
  nm ((6 : Int32) * p2) fun v1 =>
  ck (gK M p0 = 8) (bR (gR M p0 27) fun q2 => ck (gK M q2 = 10 ∧ inb (v1 + (1 : Int32)) (gN M q2)) (ck (gK M p0 = 8) (bR (gR M p0 27) fun q3 => ck (gK M q3 = 10 ∧ inb (v1 + (2 : Int32)) (gN M q3)) (ck (gK M p0 = 8) (bR (gR M p0 27) fun q4 => ck (gK M q4 = 10 ∧ inb (v1 + (3 : Int32)) (gN M q4)) (nm (((gI M q2 ((v1 + (1 : Int32))).toNatClampNeg)).toInt64 + (((gI M q3 ((v1 + (2 : Int32))).toNatClampNeg)).toInt64 * ((gI M q4 ((v1 + (3 : Int32))).toNatClampNeg)).toInt64)) fun v5 =>
  f_X8_paidIn_39 FU p0 p1 v1 v5 (1 : Int32) M))))))
set_option maxRecDepth 20000 in
set_option maxHeartbeats 4000000 in
theorem t_X8_paidIn (p0 : Nat) (p1 : Int32) (p2 : Int32) (M : Mm) (x : Int64) (M' : Mm) (h : f_X8_paidIn p0 p1 p2 M = some (x, M')) : Ctr yX8_paidIn cX8_paidIn 7 (some .long) rX8_paidIn (fun _ => [.ref p0, .int p1, .int p2]) M (zL x) M' := by
  refine ctr_of (plainFor_of_name (by decide)) (fun _ => Nat.le_of_ble_eq_true rfl) (fun z hz hin hq => ?_)
  have key : Sim z 0 [(0, .ref p0), (1, .int p1), (2, .int p2)] [] M 0 0 (f_X8_paidIn p0 p1 p2 M) (fun a b => a = x ∧ b = M') := by
    have hq : Ret z zL (fun a b => a = x ∧ b = M') := fun a b e => by rw [e.1, e.2]; exact hq
    unfold f_X8_paidIn
    refine r_bipush (v := 6) hz dX8_paidIn_0 rfl ?_
    refine r_iload_n hz dX8_paidIn_2 2 rfl ?_
    refine r_imul hz dX8_paidIn_3 ?_
    refine r_nmi (fun v1 => ?_)
    refine r_istore_n (lv' := [(3, .int v1), (0, .ref p0), (1, .int p1), (2, .int p2)]) hz dX8_paidIn_4 (by decide) rfl ?_
    refine r_aload_n hz dX8_paidIn_5 1 rfl ?_
    refine r_getR (j := 27) cl8 hz dX8_paidIn_6 (by decide) wm_5_83 rfl (fun q2 => ?_)
    refine r_iload_n hz dX8_paidIn_9 0 rfl ?_
    refine r_iconst (v := 1) hz dX8_paidIn_10 rfl ?_
    refine r_iadd hz dX8_paidIn_11 ?_
    refine r_iald hz dX8_paidIn_12 ?_
    refine r_i2l hz dX8_paidIn_13 ?_
    refine r_aload_n hz dX8_paidIn_14 1 rfl ?_
    refine r_getR (j := 27) cl8 hz dX8_paidIn_15 (by decide) wm_5_83 rfl (fun q3 => ?_)
    refine r_iload_n hz dX8_paidIn_18 0 rfl ?_
    refine r_iconst (v := 2) hz dX8_paidIn_19 rfl ?_
    refine r_iadd hz dX8_paidIn_20 ?_
    refine r_iald hz dX8_paidIn_21 ?_
    refine r_i2l hz dX8_paidIn_22 ?_
    refine r_aload_n hz dX8_paidIn_23 1 rfl ?_
    refine r_getR (j := 27) cl8 hz dX8_paidIn_24 (by decide) wm_5_83 rfl (fun q4 => ?_)
    refine r_iload_n hz dX8_paidIn_27 0 rfl ?_
    refine r_iconst (v := 3) hz dX8_paidIn_28 rfl ?_
    refine r_iadd hz dX8_paidIn_29 ?_
    refine r_iald hz dX8_paidIn_30 ?_
    refine r_i2l hz dX8_paidIn_31 ?_
    refine r_lmul hz dX8_paidIn_32 ?_
    refine r_ladd hz dX8_paidIn_33 ?_
    refine r_nml (fun v5 => ?_)
    refine r_lstore (lv' := [(4, .long v5), (3, .int v1), (0, .ref p0), (1, .int p1), (2, .int p2)]) hz dX8_paidIn_34 (by decide) rfl ?_
    refine r_iconst (v := 1) hz dX8_paidIn_36 rfl ?_
    refine r_istore (lv' := [(6, .int (1 : Int32)), (4, .long v5), (3, .int v1), (0, .ref p0), (1, .int p1), (2, .int p2)]) hz dX8_paidIn_37 (by decide) rfl ?_
    refine r_sub [3, 4, 2, 1, 0] rfl ?_
    exact s_X8_paidIn_39 hz hq FU p0 p1 v1 v5 (1 : Int32) M
  exact key x M' h ⟨rfl, rfl⟩
theorem dX8_toPay_0 : decode cX8_toPay 0 = .ok (.aload_n 0, 1) := by decide +kernel
theorem dX8_toPay_1 : decode cX8_toPay 1 = .ok (.iconst 0, 1) := by decide +kernel
theorem dX8_toPay_2 : decode cX8_toPay 2 = .ok (.putfield 46, 3) := by decide +kernel
theorem dX8_toPay_5 : decode cX8_toPay 5 = .ok (.aload_n 0, 1) := by decide +kernel
theorem dX8_toPay_6 : decode cX8_toPay 6 = .ok (.iload_n 1, 1) := by decide +kernel
theorem dX8_toPay_7 : decode cX8_toPay 7 = .ok (.invokevirtual 222, 3) := by decide +kernel
theorem dX8_toPay_10 : decode cX8_toPay 10 = .ok (.ifCond .ne 7, 3) := by decide +kernel
theorem dX8_toPay_13 : decode cX8_toPay 13 = .ok (.ldc2_w 335, 3) := by decide +kernel
theorem dX8_toPay_16 : decode cX8_toPay 16 = .ok (.lreturn, 1) := by decide +kernel
theorem dX8_toPay_17 : decode cX8_toPay 17 = .ok (.aload_n 0, 1) := by decide +kernel
theorem dX8_toPay_18 : decode cX8_toPay 18 = .ok (.iload_n 1, 1) := by decide +kernel
theorem dX8_toPay_19 : decode cX8_toPay 19 = .ok (.invokevirtual 333, 3) := by decide +kernel
theorem dX8_toPay_22 : decode cX8_toPay 22 = .ok (.lconst 0, 1) := by decide +kernel
theorem dX8_toPay_23 : decode cX8_toPay 23 = .ok (.lstore_n 2, 1) := by decide +kernel
theorem dX8_toPay_24 : decode cX8_toPay 24 = .ok (.aload_n 0, 1) := by decide +kernel
theorem dX8_toPay_25 : decode cX8_toPay 25 = .ok (.getfield 20, 3) := by decide +kernel
theorem dX8_toPay_28 : decode cX8_toPay 28 = .ok (.sipush 1206, 3) := by decide +kernel
theorem dX8_toPay_31 : decode cX8_toPay 31 = .ok (.iaload, 1) := by decide +kernel
theorem dX8_toPay_32 : decode cX8_toPay 32 = .ok (.iconst 1, 1) := by decide +kernel
theorem dX8_toPay_33 : decode cX8_toPay 33 = .ok (.iadd, 1) := by decide +kernel
theorem dX8_toPay_34 : decode cX8_toPay 34 = .ok (.istore 4, 2) := by decide +kernel
theorem dX8_toPay_36 : decode cX8_toPay 36 = .ok (.iload 4, 2) := by decide +kernel
theorem dX8_toPay_38 : decode cX8_toPay 38 = .ok (.aload_n 0, 1) := by decide +kernel
theorem dX8_toPay_39 : decode cX8_toPay 39 = .ok (.iload_n 1, 1) := by decide +kernel
theorem dX8_toPay_40 : decode cX8_toPay 40 = .ok (.iconst 3, 1) := by decide +kernel
theorem dX8_toPay_41 : decode cX8_toPay 41 = .ok (.invokevirtual 225, 3) := by decide +kernel
theorem dX8_toPay_44 : decode cX8_toPay 44 = .ok (.if_icmp .gt 19, 3) := by decide +kernel
theorem dX8_toPay_47 : decode cX8_toPay 47 = .ok (.lload_n 2, 1) := by decide +kernel
theorem dX8_toPay_48 : decode cX8_toPay 48 = .ok (.aload_n 0, 1) := by decide +kernel
theorem dX8_toPay_49 : decode cX8_toPay 49 = .ok (.iload_n 1, 1) := by decide +kernel
theorem dX8_toPay_50 : decode cX8_toPay 50 = .ok (.iload 4, 2) := by decide +kernel
theorem dX8_toPay_52 : decode cX8_toPay 52 = .ok (.invokevirtual 337, 3) := by decide +kernel
theorem dX8_toPay_55 : decode cX8_toPay 55 = .ok (.ladd, 1) := by decide +kernel
theorem dX8_toPay_56 : decode cX8_toPay 56 = .ok (.lstore_n 2, 1) := by decide +kernel
theorem dX8_toPay_57 : decode cX8_toPay 57 = .ok (.iinc 4 1, 3) := by decide +kernel
theorem dX8_toPay_60 : decode cX8_toPay 60 = .ok (.goto (-24), 3) := by decide +kernel
theorem dX8_toPay_63 : decode cX8_toPay 63 = .ok (.lload_n 2, 1) := by decide +kernel
theorem dX8_toPay_64 : decode cX8_toPay 64 = .ok (.lreturn, 1) := by decide +kernel
abbrev rX8_toPay : Room := { frames := 4, cells := 0, slots := 0, locals := 100 }
theorem cal_X8_toPay : CalOk yX8_toPay cX8_toPay 5 (some .long) 1 := ⟨wm_6_223, wm_1_9, by decide, by decide, by decide +kernel⟩
def f_X8_toPay_36 : Nat → Nat → Int32 → Int64 → Int32 → Mm → Option (Int64 × Mm)
  | 0, _, _, _, _, _ => none
  | n + 1, x0, x1, x2, x4, M =>
    ck (gK M x0 = 8) (bd (f_X8_loanOf x0 x1 (3 : Int32) M) fun v2 M1 =>
    (if v2 < x4 then
      some (x2, M1)
    else
      ck (gK M1 x0 = 8) (bd (f_X8_paidIn x0 x1 x4 M1) fun v4 M3 =>
      nm (x2 + v4) fun v5 =>
      f_X8_toPay_36 n x0 x1 v5 (x4 + (1 : Int32)) M3)))
set_option maxRecDepth 20000 in
set_option maxHeartbeats 4000000 in
theorem s_X8_toPay_36 {z : Zt} {K : Int64 → Mm → Prop} (hz : Good z RX8 cX8_toPay 5 rX8_toPay (some .long)) (hq : Ret z zL K) : ∀ (n : Nat) (x0 : Nat) (x1 : Int32) (x2 : Int64) (x4 : Int32) (M : Mm), Sim z 36 [(0, .ref x0), (1, .int x1), (2, .long x2), (4, .int x4)] [] M 0 0 (f_X8_toPay_36 n x0 x1 x2 x4 M) K := by
  intro n
  induction n with
  | zero => exact fun _ _ _ _ _ => r_none
  | succ n ih =>
    intro x0 x1 x2 x4 M
    unfold f_X8_toPay_36
    refine r_iload hz dX8_toPay_36 3 rfl ?_
    refine r_aload_n hz dX8_toPay_38 0 rfl ?_
    refine r_iload_n hz dX8_toPay_39 1 rfl ?_
    refine r_iconst (v := 3) hz dX8_toPay_40 rfl ?_
    refine r_callVi (As := fun _ => [.int x1, .int (3 : Int32)]) cl8 hz (fun _ _ h => t_X8_loanOf _ _ _ _ _ _ h) cal_X8_loanOf dX8_toPay_41 wm_6_68 wm_6_70 wm_p_66 rfl rfl (Nat.le_of_ble_eq_true rfl) ⟨(Nat.le_of_ble_eq_true rfl), (Nat.le_of_ble_eq_true rfl)⟩ ⟨(Nat.le_of_ble_eq_true rfl), (Nat.le_of_ble_eq_true rfl)⟩ (fun v2 M1 => ?_)
    refine r_icmp_gt (tgt := 63) hz dX8_toPay_44 rfl ?_ ?_
    · refine r_lload_n hz dX8_toPay_63 2 rfl ?_
      exact r_lret hz hq dX8_toPay_64 (Nat.le_of_ble_eq_true rfl) (Nat.le_of_ble_eq_true rfl)
    · refine r_lload_n hz dX8_toPay_47 2 rfl ?_
      refine r_aload_n hz dX8_toPay_48 0 rfl ?_
      refine r_iload_n hz dX8_toPay_49 1 rfl ?_
      refine r_iload hz dX8_toPay_50 3 rfl ?_
      refine r_callVl (As := fun _ => [.int x1, .int x4]) cl8 hz (fun _ _ h => t_X8_paidIn _ _ _ _ _ _ h) cal_X8_paidIn dX8_toPay_52 wm_6_225 wm_6_227 wm_p_84 rfl rfl (Nat.le_of_ble_eq_true rfl) ⟨(Nat.le_of_ble_eq_true rfl), (Nat.le_of_ble_eq_true rfl)⟩ ⟨(Nat.le_of_ble_eq_true rfl), (Nat.le_of_ble_eq_true rfl)⟩ (fun v4 M3 => ?_)
      refine r_ladd hz dX8_toPay_55 ?_
      refine r_nml (fun v5 => ?_)
      refine r_lstore_n (lv' := [(2, .long v5), (0, .ref x0), (1, .int x1), (4, .int x4)]) hz dX8_toPay_56 (by decide) rfl ?_
      refine r_iinc (v := (x4 + (1 : Int32))) (lv' := [(4, .int (x4 + (1 : Int32))), (2, .long v5), (0, .ref x0), (1, .int x1)]) hz dX8_toPay_57 3 rfl rfl (by decide) rfl ?_
      refine r_goto (tgt := 36) hz dX8_toPay_60 rfl ?_
      refine r_sub [2, 3, 1, 0] rfl ?_
      exact ih x0 x1 v5 (x4 + (1 : Int32)) M3
def f_X8_toPay (p0 : Nat) (p1 : Int32) (M : Mm) : Option (Int64 × Mm) :=
  ck (gK M p0 = 8) (nm (sI M p0 0 (0 : Int32)) fun M1 =>
  ck (gK M1 p0 = 8) (bd (f_X8_isLoan p0 p1 M1) fun v3 M2 =>
  (if ¬ v3 = 0 then
    ck (gK M2 p0 = 8) (bd (f_X8_tells_ p0 p1 M2) fun _ M4 =>
    ck (gK M4 p0 = 8) (bR (gR M4 p0 17) fun q5 => ck (gK M4 q5 = 10 ∧ inb (1206 : Int32) (gN M4 q5)) (nm ((gI M4 q5 ((1206 : Int32)).toNatClampNeg) + (1 : Int32)) fun v6 =>
    f_X8_toPay_36 FU p0 p1 (0 : Int64) v6 M4)))
  else
    some ((-1 : Int64), M2))))
set_option maxRecDepth 20000 in
set_option maxHeartbeats 4000000 in
theorem t_X8_toPay (p0 : Nat) (p1 : Int32) (M : Mm) (x : Int64) (M' : Mm) (h : f_X8_toPay p0 p1 M = some (x, M')) : Ctr yX8_toPay cX8_toPay 5 (some .long) rX8_toPay (fun _ => [.ref p0, .int p1]) M (zL x) M' := by
  refine ctr_of (plainFor_of_name (by decide)) (fun _ => Nat.le_of_ble_eq_true rfl) (fun z hz hin hq => ?_)
  have key : Sim z 0 [(0, .ref p0), (1, .int p1)] [] M 0 0 (f_X8_toPay p0 p1 M) (fun a b => a = x ∧ b = M') := by
    have hq : Ret z zL (fun a b => a = x ∧ b = M') := fun a b e => by rw [e.1, e.2]; exact hq
    unfold f_X8_toPay
    refine r_aload_n hz dX8_toPay_0 0 rfl ?_
    refine r_iconst (v := 0) hz dX8_toPay_1 rfl ?_
    refine r_putI (j := 0) cl8 hz dX8_toPay_2 (by decide) wm_5_56 (Or.inl rfl) rfl rfl rfl ?_
    refine r_nmM (fun M1 => ?_)
    refine r_aload_n hz dX8_toPay_5 0 rfl ?_
    refine r_iload_n hz dX8_toPay_6 1 rfl ?_
    refine r_callVi (As := fun _ => [.int p1]) cl8 hz (fun _ _ h => t_X8_isLoan _ _ _ _ _ h) cal_X8_isLoan dX8_toPay_7 wm_6_79 wm_6_81 wm_p_67 rfl rfl (Nat.le_of_ble_eq_true rfl) ⟨(Nat.le_of_ble_eq_true rfl), (Nat.le_of_ble_eq_true rfl)⟩ ⟨(Nat.le_of_ble_eq_true rfl), (Nat.le_of_ble_eq_true rfl)⟩ (fun v3 M2 => ?_)
    refine r_if_ne (tgt := 17) hz dX8_toPay_10 rfl ?_ ?_
    · refine r_aload_n hz dX8_toPay_17 0 rfl ?_
      refine r_iload_n hz dX8_toPay_18 1 rfl ?_
      refine r_callVv (As := fun _ => [.int p1]) cl8 hz (fun _ _ h => t_X8_tells_ _ _ _ _ _ h) cal_X8_tells_ dX8_toPay_19 wm_6_212 wm_6_214 wm_p_82 rfl rfl (Nat.le_of_ble_eq_true rfl) ⟨(Nat.le_of_ble_eq_true rfl), (Nat.le_of_ble_eq_true rfl)⟩ ⟨(Nat.le_of_ble_eq_true rfl), (Nat.le_of_ble_eq_true rfl)⟩ (fun _ M4 => ?_)
      refine r_lconst (v := 0) hz dX8_toPay_22 rfl ?_
      refine r_lstore_n (lv' := [(2, .long (0 : Int64)), (0, .ref p0), (1, .int p1)]) hz dX8_toPay_23 (by decide) rfl ?_
      refine r_aload_n hz dX8_toPay_24 1 rfl ?_
      refine r_getR (j := 17) cl8 hz dX8_toPay_25 (by decide) wm_5_73 rfl (fun q5 => ?_)
      refine r_sipush (v := 1206) hz dX8_toPay_28 rfl ?_
      refine r_iald hz dX8_toPay_31 ?_
      refine r_iconst (v := 1) hz dX8_toPay_32 rfl ?_
      refine r_iadd hz dX8_toPay_33 ?_
      refine r_nmi (fun v6 => ?_)
      refine r_istore (lv' := [(4, .int v6), (2, .long (0 : Int64)), (0, .ref p0), (1, .int p1)]) hz dX8_toPay_34 (by decide) rfl ?_
      refine r_sub [2, 3, 1, 0] rfl ?_
      exact s_X8_toPay_36 hz hq FU p0 p1 (0 : Int64) v6 M4
    · refine r_ldc2 (v := -1) hz dX8_toPay_13 wm_6_224 ?_
      exact r_lret hz hq dX8_toPay_16 (Nat.le_of_ble_eq_true rfl) (Nat.le_of_ble_eq_true rfl)
  exact key x M' h ⟨rfl, rfl⟩
theorem dX8_least_0 : decode cX8_least 0 = .ok (.lload_n 1, 1) := by decide +kernel
theorem dX8_least_1 : decode cX8_least 1 = .ok (.lstore 5, 2) := by decide +kernel
theorem dX8_least_3 : decode cX8_least 3 = .ok (.lload_n 3, 1) := by decide +kernel
theorem dX8_least_4 : decode cX8_least 4 = .ok (.lstore 7, 2) := by decide +kernel
theorem dX8_least_6 : decode cX8_least 6 = .ok (.lload 7, 2) := by decide +kernel
theorem dX8_least_8 : decode cX8_least 8 = .ok (.lconst 0, 1) := by decide +kernel
theorem dX8_least_9 : decode cX8_least 9 = .ok (.lcmp, 1) := by decide +kernel
theorem dX8_least_10 : decode cX8_least 10 = .ok (.ifCond .eq 21, 3) := by decide +kernel
theorem dX8_least_13 : decode cX8_least 13 = .ok (.lload 5, 2) := by decide +kernel
theorem dX8_least_15 : decode cX8_least 15 = .ok (.lload 7, 2) := by decide +kernel
theorem dX8_least_17 : decode cX8_least 17 = .ok (.lrem, 1) := by decide +kernel
theorem dX8_least_18 : decode cX8_least 18 = .ok (.lstore 9, 2) := by decide +kernel
theorem dX8_least_20 : decode cX8_least 20 = .ok (.lload 7, 2) := by decide +kernel
theorem dX8_least_22 : decode cX8_least 22 = .ok (.lstore 5, 2) := by decide +kernel
theorem dX8_least_24 : decode cX8_least 24 = .ok (.lload 9, 2) := by decide +kernel
theorem dX8_least_26 : decode cX8_least 26 = .ok (.lstore 7, 2) := by decide +kernel
theorem dX8_least_28 : decode cX8_least 28 = .ok (.goto (-22), 3) := by decide +kernel
theorem dX8_least_31 : decode cX8_least 31 = .ok (.aload_n 0, 1) := by decide +kernel
theorem dX8_least_32 : decode cX8_least 32 = .ok (.lload_n 3, 1) := by decide +kernel
theorem dX8_least_33 : decode cX8_least 33 = .ok (.lload 5, 2) := by decide +kernel
theorem dX8_least_35 : decode cX8_least 35 = .ok (.ldiv, 1) := by decide +kernel
theorem dX8_least_36 : decode cX8_least 36 = .ok (.putfield 39, 3) := by decide +kernel
theorem dX8_least_39 : decode cX8_least 39 = .ok (.lload_n 1, 1) := by decide +kernel
theorem dX8_least_40 : decode cX8_least 40 = .ok (.lload 5, 2) := by decide +kernel
theorem dX8_least_42 : decode cX8_least 42 = .ok (.ldiv, 1) := by decide +kernel
theorem dX8_least_43 : decode cX8_least 43 = .ok (.lreturn, 1) := by decide +kernel
abbrev rX8_least : Room := { frames := 0, cells := 0, slots := 0, locals := 0 }
theorem cal_X8_least : CalOk yX8_least cX8_least 11 (some .long) 2 := ⟨wm_7_4, wm_1_9, by decide, by decide, by decide +kernel⟩
def f_X8_least_6 : Nat → Nat → Int64 → Int64 → Int64 → Int64 → Mm → Option (Int64 × Mm)
  | 0, _, _, _, _, _, _ => none
  | n + 1, x0, x1, x3, x5, x7, M =>
    (if x7 = (0 : Int64) then
      ck (¬ x5 = 0) (ck (gK M x0 = 8) (nm (sL M x0 28 (x3 / x5)) fun M1 =>
      ck (¬ x5 = 0) (some ((x1 / x5), M1))))
    else
      ck (¬ x7 = 0) (nm (x5 - x5 / x7 * x7) fun v2 =>
      f_X8_least_6 n x0 x1 x3 x7 v2 M))
set_option maxRecDepth 20000 in
set_option maxHeartbeats 4000000 in
theorem s_X8_least_6 {z : Zt} {K : Int64 → Mm → Prop} (hz : Good z RX8 cX8_least 11 rX8_least (some .long)) (hq : Ret z zL K) : ∀ (n : Nat) (x0 : Nat) (x1 : Int64) (x3 : Int64) (x5 : Int64) (x7 : Int64) (M : Mm), Sim z 6 [(0, .ref x0), (1, .long x1), (3, .long x3), (5, .long x5), (7, .long x7)] [] M 0 0 (f_X8_least_6 n x0 x1 x3 x5 x7 M) K := by
  intro n
  induction n with
  | zero => exact fun _ _ _ _ _ _ => r_none
  | succ n ih =>
    intro x0 x1 x3 x5 x7 M
    unfold f_X8_least_6
    refine r_lload hz dX8_least_6 4 rfl ?_
    refine r_lconst (v := 0) hz dX8_least_8 rfl ?_
    refine r_lcmp_eq (tgt := 31) hz dX8_least_9 dX8_least_10 rfl ?_ ?_
    · refine r_aload_n hz dX8_least_31 0 rfl ?_
      refine r_lload_n hz dX8_least_32 2 rfl ?_
      refine r_lload hz dX8_least_33 3 rfl ?_
      refine r_ldiv hz dX8_least_35 ?_
      refine r_putL (j := 28) cl8 hz dX8_least_36 (by decide) wm_5_84 (Or.inl rfl) rfl rfl rfl ?_
      refine r_nmM (fun M1 => ?_)
      refine r_lload_n hz dX8_least_39 1 rfl ?_
      refine r_lload hz dX8_least_40 3 rfl ?_
      refine r_ldiv hz dX8_least_42 ?_
      exact r_lret hz hq dX8_least_43 (Nat.le_of_ble_eq_true rfl) (Nat.le_of_ble_eq_true rfl)
    · refine r_lload hz dX8_least_13 3 rfl ?_
      refine r_lload hz dX8_least_15 4 rfl ?_
      refine r_lrem hz dX8_least_17 ?_
      refine r_nml (fun v2 => ?_)
      refine r_lstore (lv' := [(9, .long v2), (0, .ref x0), (1, .long x1), (3, .long x3), (5, .long x5), (7, .long x7)]) hz dX8_least_18 (by decide) rfl ?_
      refine r_lload hz dX8_least_20 5 rfl ?_
      refine r_lstore (lv' := [(5, .long x7), (9, .long v2), (0, .ref x0), (1, .long x1), (3, .long x3), (7, .long x7)]) hz dX8_least_22 (by decide) rfl ?_
      refine r_lload hz dX8_least_24 1 rfl ?_
      refine r_lstore (lv' := [(7, .long v2), (5, .long x7), (9, .long v2), (0, .ref x0), (1, .long x1), (3, .long x3)]) hz dX8_least_26 (by decide) rfl ?_
      refine r_goto (tgt := 6) hz dX8_least_28 rfl ?_
      refine r_sub [3, 4, 5, 1, 0] rfl ?_
      exact ih x0 x1 x3 x7 v2 M
def f_X8_least (p0 : Nat) (p1 : Int64) (p3 : Int64) (M : Mm) : Option (Int64 × Mm) :=
  f_X8_least_6 FU p0 p1 p3 p1 p3 M
set_option maxRecDepth 20000 in
set_option maxHeartbeats 4000000 in
theorem t_X8_least (p0 : Nat) (p1 : Int64) (p3 : Int64) (M : Mm) (x : Int64) (M' : Mm) (h : f_X8_least p0 p1 p3 M = some (x, M')) : Ctr yX8_least cX8_least 11 (some .long) rX8_least (fun _ => [.ref p0, .long p1, .long p3]) M (zL x) M' := by
  refine ctr_of (plainFor_of_name (by decide)) (fun _ => Nat.le_of_ble_eq_true rfl) (fun z hz hin hq => ?_)
  have key : Sim z 0 [(0, .ref p0), (1, .long p1), (3, .long p3)] [] M 0 0 (f_X8_least p0 p1 p3 M) (fun a b => a = x ∧ b = M') := by
    have hq : Ret z zL (fun a b => a = x ∧ b = M') := fun a b e => by rw [e.1, e.2]; exact hq
    unfold f_X8_least
    refine r_lload_n hz dX8_least_0 1 rfl ?_
    refine r_lstore (lv' := [(5, .long p1), (0, .ref p0), (1, .long p1), (3, .long p3)]) hz dX8_least_1 (by decide) rfl ?_
    refine r_lload_n hz dX8_least_3 3 rfl ?_
    refine r_lstore (lv' := [(7, .long p3), (5, .long p1), (0, .ref p0), (1, .long p1), (3, .long p3)]) hz dX8_least_4 (by decide) rfl ?_
    refine r_sub [2, 3, 4, 1, 0] rfl ?_
    exact s_X8_least_6 hz hq FU p0 p1 p3 p1 p3 M
  exact key x M' h ⟨rfl, rfl⟩
theorem dX8_below_0 : decode cX8_below 0 = .ok (.aload_n 0, 1) := by decide +kernel
theorem dX8_below_1 : decode cX8_below 1 = .ok (.iconst 0, 1) := by decide +kernel
theorem dX8_below_2 : decode cX8_below 2 = .ok (.putfield 46, 3) := by decide +kernel
theorem dX8_below_5 : decode cX8_below 5 = .ok (.aload_n 0, 1) := by decide +kernel
theorem dX8_below_6 : decode cX8_below 6 = .ok (.getfield 39, 3) := by decide +kernel
theorem dX8_below_9 : decode cX8_below 9 = .ok (.lreturn, 1) := by decide +kernel
abbrev rX8_below : Room := { frames := 0, cells := 0, slots := 0, locals := 0 }
theorem cal_X8_below : CalOk yX8_below cX8_below 1 (some .long) 0 := ⟨wm_6_232, wm_1_9, by decide, by decide, by decide +kernel⟩
def f_X8_below (p0 : Nat) (M : Mm) : Option (Int64 × Mm) :=
  ck (gK M p0 = 8) (nm (sI M p0 0 (0 : Int32)) fun M1 =>
  ck (gK M1 p0 = 8) (some ((gL M1 p0 28), M1)))
set_option maxRecDepth 20000 in
set_option maxHeartbeats 4000000 in
theorem t_X8_below (p0 : Nat) (M : Mm) (x : Int64) (M' : Mm) (h : f_X8_below p0 M = some (x, M')) : Ctr yX8_below cX8_below 1 (some .long) rX8_below (fun _ => [.ref p0]) M (zL x) M' := by
  refine ctr_of (plainFor_of_name (by decide)) (fun _ => Nat.le_of_ble_eq_true rfl) (fun z hz hin hq => ?_)
  have key : Sim z 0 [(0, .ref p0)] [] M 0 0 (f_X8_below p0 M) (fun a b => a = x ∧ b = M') := by
    have hq : Ret z zL (fun a b => a = x ∧ b = M') := fun a b e => by rw [e.1, e.2]; exact hq
    unfold f_X8_below
    refine r_aload_n hz dX8_below_0 0 rfl ?_
    refine r_iconst (v := 0) hz dX8_below_1 rfl ?_
    refine r_putI (j := 0) cl8 hz dX8_below_2 (by decide) wm_5_56 (Or.inl rfl) rfl rfl rfl ?_
    refine r_nmM (fun M1 => ?_)
    refine r_aload_n hz dX8_below_5 0 rfl ?_
    refine r_getL (j := 28) cl8 hz dX8_below_6 (by decide) wm_5_84 rfl ?_
    exact r_lret hz hq dX8_below_9 (Nat.le_of_ble_eq_true rfl) (Nat.le_of_ble_eq_true rfl)
  exact key x M' h ⟨rfl, rfl⟩
theorem dX8_hasAny_0 : decode cX8_hasAny 0 = .ok (.aload_n 0, 1) := by decide +kernel
theorem dX8_hasAny_1 : decode cX8_hasAny 1 = .ok (.iload_n 1, 1) := by decide +kernel
theorem dX8_hasAny_2 : decode cX8_hasAny 2 = .ok (.invokevirtual 222, 3) := by decide +kernel
theorem dX8_hasAny_5 : decode cX8_hasAny 5 = .ok (.ifCond .eq 16, 3) := by decide +kernel
theorem dX8_hasAny_8 : decode cX8_hasAny 8 = .ok (.aload_n 0, 1) := by decide +kernel
theorem dX8_hasAny_9 : decode cX8_hasAny 9 = .ok (.iload_n 1, 1) := by decide +kernel
theorem dX8_hasAny_10 : decode cX8_hasAny 10 = .ok (.iconst 0, 1) := by decide +kernel
theorem dX8_hasAny_11 : decode cX8_hasAny 11 = .ok (.invokevirtual 232, 3) := by decide +kernel
theorem dX8_hasAny_14 : decode cX8_hasAny 14 = .ok (.ifCond .le 7, 3) := by decide +kernel
theorem dX8_hasAny_17 : decode cX8_hasAny 17 = .ok (.iconst 1, 1) := by decide +kernel
theorem dX8_hasAny_18 : decode cX8_hasAny 18 = .ok (.goto 4, 3) := by decide +kernel
theorem dX8_hasAny_21 : decode cX8_hasAny 21 = .ok (.iconst 0, 1) := by decide +kernel
theorem dX8_hasAny_22 : decode cX8_hasAny 22 = .ok (.ireturn, 1) := by decide +kernel
abbrev rX8_hasAny : Room := { frames := 2, cells := 0, slots := 0, locals := 46 }
theorem cal_X8_hasAny : CalOk yX8_hasAny cX8_hasAny 2 (some .boolean) 1 := ⟨wm_7_0, wm_1_9, by decide, by decide, by decide +kernel⟩
def f_X8_hasAny (p0 : Nat) (p1 : Int32) (M : Mm) : Option (Int32 × Mm) :=
  ck (gK M p0 = 8) (bd (f_X8_isLoan p0 p1 M) fun v2 M1 =>
  (if v2 = 0 then
    some ((0 : Int32), M1)
  else
    ck (gK M1 p0 = 8) (bd (f_X8_howMany p0 p1 (0 : Int32) M1) fun v4 M3 =>
    (if v4 ≤ 0 then
      some ((0 : Int32), M3)
    else
      some ((1 : Int32), M3)))))
set_option maxRecDepth 20000 in
set_option maxHeartbeats 4000000 in
theorem t_X8_hasAny (p0 : Nat) (p1 : Int32) (M : Mm) (x : Int32) (M' : Mm) (h : f_X8_hasAny p0 p1 M = some (x, M')) : Ctr yX8_hasAny cX8_hasAny 2 (some .boolean) rX8_hasAny (fun _ => [.ref p0, .int p1]) M (zI x) M' := by
  refine ctr_of (plainFor_of_name (by decide)) (fun _ => Nat.le_of_ble_eq_true rfl) (fun z hz hin hq => ?_)
  have key : Sim z 0 [(0, .ref p0), (1, .int p1)] [] M 0 0 (f_X8_hasAny p0 p1 M) (fun a b => a = x ∧ b = M') := by
    have hq : Ret z zI (fun a b => a = x ∧ b = M') := fun a b e => by rw [e.1, e.2]; exact hq
    unfold f_X8_hasAny
    refine r_aload_n hz dX8_hasAny_0 0 rfl ?_
    refine r_iload_n hz dX8_hasAny_1 1 rfl ?_
    refine r_callVi (As := fun _ => [.int p1]) cl8 hz (fun _ _ h => t_X8_isLoan _ _ _ _ _ h) cal_X8_isLoan dX8_hasAny_2 wm_6_79 wm_6_81 wm_p_67 rfl rfl (Nat.le_of_ble_eq_true rfl) ⟨(Nat.le_of_ble_eq_true rfl), (Nat.le_of_ble_eq_true rfl)⟩ ⟨(Nat.le_of_ble_eq_true rfl), (Nat.le_of_ble_eq_true rfl)⟩ (fun v2 M1 => ?_)
    refine r_if_eq (tgt := 21) hz dX8_hasAny_5 rfl ?_ ?_
    · refine r_iconst (v := 0) hz dX8_hasAny_21 rfl ?_
      exact r_zret hz hq dX8_hasAny_22 (Or.inl rfl) (Nat.le_of_ble_eq_true rfl) (Nat.le_of_ble_eq_true rfl)
    · refine r_aload_n hz dX8_hasAny_8 0 rfl ?_
      refine r_iload_n hz dX8_hasAny_9 1 rfl ?_
      refine r_iconst (v := 0) hz dX8_hasAny_10 rfl ?_
      refine r_callVi (As := fun _ => [.int p1, .int (0 : Int32)]) cl8 hz (fun _ _ h => t_X8_howMany _ _ _ _ _ _ h) cal_X8_howMany dX8_hasAny_11 wm_6_64 wm_6_66 wm_p_65 rfl rfl (Nat.le_of_ble_eq_true rfl) ⟨(Nat.le_of_ble_eq_true rfl), (Nat.le_of_ble_eq_true rfl)⟩ ⟨(Nat.le_of_ble_eq_true rfl), (Nat.le_of_ble_eq_true rfl)⟩ (fun v4 M3 => ?_)
      refine r_if_le (tgt := 21) hz dX8_hasAny_14 rfl ?_ ?_
      · refine r_iconst (v := 0) hz dX8_hasAny_21 rfl ?_
        exact r_zret hz hq dX8_hasAny_22 (Or.inl rfl) (Nat.le_of_ble_eq_true rfl) (Nat.le_of_ble_eq_true rfl)
      · refine r_iconst (v := 1) hz dX8_hasAny_17 rfl ?_
        refine r_goto (tgt := 22) hz dX8_hasAny_18 rfl ?_
        exact r_zret hz hq dX8_hasAny_22 (Or.inr rfl) (Nat.le_of_ble_eq_true rfl) (Nat.le_of_ble_eq_true rfl)
  exact key x M' h ⟨rfl, rfl⟩
theorem dX8_odds_0 : decode cX8_odds 0 = .ok (.aload_n 0, 1) := by decide +kernel
theorem dX8_odds_1 : decode cX8_odds 1 = .ok (.iconst 0, 1) := by decide +kernel
theorem dX8_odds_2 : decode cX8_odds 2 = .ok (.putfield 46, 3) := by decide +kernel
theorem dX8_odds_5 : decode cX8_odds 5 = .ok (.aload_n 0, 1) := by decide +kernel
theorem dX8_odds_6 : decode cX8_odds 6 = .ok (.iload_n 1, 1) := by decide +kernel
theorem dX8_odds_7 : decode cX8_odds 7 = .ok (.iload_n 2, 1) := by decide +kernel
theorem dX8_odds_8 : decode cX8_odds 8 = .ok (.invokevirtual 317, 3) := by decide +kernel
theorem dX8_odds_11 : decode cX8_odds 11 = .ok (.ifCond .eq 11, 3) := by decide +kernel
theorem dX8_odds_14 : decode cX8_odds 14 = .ok (.aload_n 0, 1) := by decide +kernel
theorem dX8_odds_15 : decode cX8_odds 15 = .ok (.iload_n 1, 1) := by decide +kernel
theorem dX8_odds_16 : decode cX8_odds 16 = .ok (.invokevirtual 341, 3) := by decide +kernel
theorem dX8_odds_19 : decode cX8_odds 19 = .ok (.ifCond .ne 7, 3) := by decide +kernel
theorem dX8_odds_22 : decode cX8_odds 22 = .ok (.ldc2_w 335, 3) := by decide +kernel
theorem dX8_odds_25 : decode cX8_odds 25 = .ok (.lreturn, 1) := by decide +kernel
theorem dX8_odds_26 : decode cX8_odds 26 = .ok (.aload_n 0, 1) := by decide +kernel
theorem dX8_odds_27 : decode cX8_odds 27 = .ok (.iload_n 1, 1) := by decide +kernel
theorem dX8_odds_28 : decode cX8_odds 28 = .ok (.invokevirtual 333, 3) := by decide +kernel
theorem dX8_odds_31 : decode cX8_odds 31 = .ok (.aload_n 0, 1) := by decide +kernel
theorem dX8_odds_32 : decode cX8_odds 32 = .ok (.aload_n 0, 1) := by decide +kernel
theorem dX8_odds_33 : decode cX8_odds 33 = .ok (.getfield 36, 3) := by decide +kernel
theorem dX8_odds_36 : decode cX8_odds 36 = .ok (.bipush 6, 2) := by decide +kernel
theorem dX8_odds_38 : decode cX8_odds 38 = .ok (.iload_n 2, 1) := by decide +kernel
theorem dX8_odds_39 : decode cX8_odds 39 = .ok (.imul, 1) := by decide +kernel
theorem dX8_odds_40 : decode cX8_odds 40 = .ok (.iconst 2, 1) := by decide +kernel
theorem dX8_odds_41 : decode cX8_odds 41 = .ok (.iadd, 1) := by decide +kernel
theorem dX8_odds_42 : decode cX8_odds 42 = .ok (.iaload, 1) := by decide +kernel
theorem dX8_odds_43 : decode cX8_odds 43 = .ok (.i2l, 1) := by decide +kernel
theorem dX8_odds_44 : decode cX8_odds 44 = .ok (.aload_n 0, 1) := by decide +kernel
theorem dX8_odds_45 : decode cX8_odds 45 = .ok (.iload_n 1, 1) := by decide +kernel
theorem dX8_odds_46 : decode cX8_odds 46 = .ok (.iconst 0, 1) := by decide +kernel
theorem dX8_odds_47 : decode cX8_odds 47 = .ok (.invokevirtual 232, 3) := by decide +kernel
theorem dX8_odds_50 : decode cX8_odds 50 = .ok (.i2l, 1) := by decide +kernel
theorem dX8_odds_51 : decode cX8_odds 51 = .ok (.invokevirtual 344, 3) := by decide +kernel
theorem dX8_odds_54 : decode cX8_odds 54 = .ok (.lreturn, 1) := by decide +kernel
abbrev rX8_odds : Room := { frames := 4, cells := 0, slots := 0, locals := 100 }
theorem cal_X8_odds : CalOk yX8_odds cX8_odds 3 (some .long) 2 := ⟨wm_6_236, wm_1_9, by decide, by decide, by decide +kernel⟩
def f_X8_odds (p0 : Nat) (p1 : Int32) (p2 : Int32) (M : Mm) : Option (Int64 × Mm) :=
  ck (gK M p0 = 8) (nm (sI M p0 0 (0 : Int32)) fun M1 =>
  ck (gK M1 p0 = 8) (bd (f_X8_isToCome p0 p1 p2 M1) fun v3 M2 =>
  (if v3 = 0 then
    some ((-1 : Int64), M2)
  else
    ck (gK M2 p0 = 8) (bd (f_X8_hasAny p0 p1 M2) fun v5 M4 =>
    (if ¬ v5 = 0 then
      ck (gK M4 p0 = 8) (bd (f_X8_tells_ p0 p1 M4) fun _ M6 =>
      ck (gK M6 p0 = 8) (bR (gR M6 p0 27) fun q7 => ck (gK M6 q7 = 10 ∧ inb (((6 : Int32) * p2) + (2 : Int32)) (gN M6 q7)) (ck (gK M6 p0 = 8) (bd (f_X8_howMany p0 p1 (0 : Int32) M6) fun v9 M8 =>
      ck (gK M8 p0 = 8) (bd (f_X8_least p0 ((gI M6 q7 ((((6 : Int32) * p2) + (2 : Int32))).toNatClampNeg)).toInt64 (v9).toInt64 M8) fun v11 M10 =>
      some (v11, M10))))))
    else
      some ((-1 : Int64), M4))))))
set_option maxRecDepth 20000 in
set_option maxHeartbeats 4000000 in
theorem t_X8_odds (p0 : Nat) (p1 : Int32) (p2 : Int32) (M : Mm) (x : Int64) (M' : Mm) (h : f_X8_odds p0 p1 p2 M = some (x, M')) : Ctr yX8_odds cX8_odds 3 (some .long) rX8_odds (fun _ => [.ref p0, .int p1, .int p2]) M (zL x) M' := by
  refine ctr_of (plainFor_of_name (by decide)) (fun _ => Nat.le_of_ble_eq_true rfl) (fun z hz hin hq => ?_)
  have key : Sim z 0 [(0, .ref p0), (1, .int p1), (2, .int p2)] [] M 0 0 (f_X8_odds p0 p1 p2 M) (fun a b => a = x ∧ b = M') := by
    have hq : Ret z zL (fun a b => a = x ∧ b = M') := fun a b e => by rw [e.1, e.2]; exact hq
    unfold f_X8_odds
    refine r_aload_n hz dX8_odds_0 0 rfl ?_
    refine r_iconst (v := 0) hz dX8_odds_1 rfl ?_
    refine r_putI (j := 0) cl8 hz dX8_odds_2 (by decide) wm_5_56 (Or.inl rfl) rfl rfl rfl ?_
    refine r_nmM (fun M1 => ?_)
    refine r_aload_n hz dX8_odds_5 0 rfl ?_
    refine r_iload_n hz dX8_odds_6 1 rfl ?_
    refine r_iload_n hz dX8_odds_7 2 rfl ?_
    refine r_callVi (As := fun _ => [.int p1, .int p2]) cl8 hz (fun _ _ h => t_X8_isToCome _ _ _ _ _ _ h) cal_X8_isToCome dX8_odds_8 wm_6_186 wm_6_188 wm_p_81 rfl rfl (Nat.le_of_ble_eq_true rfl) ⟨(Nat.le_of_ble_eq_true rfl), (Nat.le_of_ble_eq_true rfl)⟩ ⟨(Nat.le_of_ble_eq_true rfl), (Nat.le_of_ble_eq_true rfl)⟩ (fun v3 M2 => ?_)
    refine r_if_eq (tgt := 22) hz dX8_odds_11 rfl ?_ ?_
    · refine r_ldc2 (v := -1) hz dX8_odds_22 wm_6_224 ?_
      exact r_lret hz hq dX8_odds_25 (Nat.le_of_ble_eq_true rfl) (Nat.le_of_ble_eq_true rfl)
    · refine r_aload_n hz dX8_odds_14 0 rfl ?_
      refine r_iload_n hz dX8_odds_15 1 rfl ?_
      refine r_callVi (As := fun _ => [.int p1]) cl8 hz (fun _ _ h => t_X8_hasAny _ _ _ _ _ h) cal_X8_hasAny dX8_odds_16 wm_6_237 wm_6_239 wm_p_85 rfl rfl (Nat.le_of_ble_eq_true rfl) ⟨(Nat.le_of_ble_eq_true rfl), (Nat.le_of_ble_eq_true rfl)⟩ ⟨(Nat.le_of_ble_eq_true rfl), (Nat.le_of_ble_eq_true rfl)⟩ (fun v5 M4 => ?_)
      refine r_if_ne (tgt := 26) hz dX8_odds_19 rfl ?_ ?_
      · refine r_aload_n hz dX8_odds_26 0 rfl ?_
        refine r_iload_n hz dX8_odds_27 1 rfl ?_
        refine r_callVv (As := fun _ => [.int p1]) cl8 hz (fun _ _ h => t_X8_tells_ _ _ _ _ _ h) cal_X8_tells_ dX8_odds_28 wm_6_212 wm_6_214 wm_p_82 rfl rfl (Nat.le_of_ble_eq_true rfl) ⟨(Nat.le_of_ble_eq_true rfl), (Nat.le_of_ble_eq_true rfl)⟩ ⟨(Nat.le_of_ble_eq_true rfl), (Nat.le_of_ble_eq_true rfl)⟩ (fun _ M6 => ?_)
        refine r_aload_n hz dX8_odds_31 0 rfl ?_
        refine r_aload_n hz dX8_odds_32 0 rfl ?_
        refine r_getR (j := 27) cl8 hz dX8_odds_33 (by decide) wm_5_83 rfl (fun q7 => ?_)
        refine r_bipush (v := 6) hz dX8_odds_36 rfl ?_
        refine r_iload_n hz dX8_odds_38 2 rfl ?_
        refine r_imul hz dX8_odds_39 ?_
        refine r_iconst (v := 2) hz dX8_odds_40 rfl ?_
        refine r_iadd hz dX8_odds_41 ?_
        refine r_iald hz dX8_odds_42 ?_
        refine r_i2l hz dX8_odds_43 ?_
        refine r_aload_n hz dX8_odds_44 0 rfl ?_
        refine r_iload_n hz dX8_odds_45 1 rfl ?_
        refine r_iconst (v := 0) hz dX8_odds_46 rfl ?_
        refine r_callVi (As := fun _ => [.int p1, .int (0 : Int32)]) cl8 hz (fun _ _ h => t_X8_howMany _ _ _ _ _ _ h) cal_X8_howMany dX8_odds_47 wm_6_64 wm_6_66 wm_p_65 rfl rfl (Nat.le_of_ble_eq_true rfl) ⟨(Nat.le_of_ble_eq_true rfl), (Nat.le_of_ble_eq_true rfl)⟩ ⟨(Nat.le_of_ble_eq_true rfl), (Nat.le_of_ble_eq_true rfl)⟩ (fun v9 M8 => ?_)
        refine r_i2l hz dX8_odds_50 ?_
        refine r_callVl (As := fun _ => [.long ((gI M6 q7 ((((6 : Int32) * p2) + (2 : Int32))).toNatClampNeg)).toInt64, .long (v9).toInt64]) cl8 hz (fun _ _ h => t_X8_least _ _ _ _ _ _ h) cal_X8_least dX8_odds_51 wm_7_1 wm_7_3 wm_p_86 rfl rfl (Nat.le_of_ble_eq_true rfl) ⟨(Nat.le_of_ble_eq_true rfl), (Nat.le_of_ble_eq_true rfl)⟩ ⟨(Nat.le_of_ble_eq_true rfl), (Nat.le_of_ble_eq_true rfl)⟩ (fun v11 M10 => ?_)
        exact r_lret hz hq dX8_odds_54 (Nat.le_of_ble_eq_true rfl) (Nat.le_of_ble_eq_true rfl)
      · refine r_ldc2 (v := -1) hz dX8_odds_22 wm_6_224 ?_
        exact r_lret hz hq dX8_odds_25 (Nat.le_of_ble_eq_true rfl) (Nat.le_of_ble_eq_true rfl)
  exact key x M' h ⟨rfl, rfl⟩
theorem dX8_times_0 : decode cX8_times 0 = .ok (.lload_n 0, 1) := by decide +kernel
theorem dX8_times_1 : decode cX8_times 1 = .ok (.lconst 0, 1) := by decide +kernel
theorem dX8_times_2 : decode cX8_times 2 = .ok (.lcmp, 1) := by decide +kernel
theorem dX8_times_3 : decode cX8_times 3 = .ok (.ifCond .eq 13, 3) := by decide +kernel
theorem dX8_times_6 : decode cX8_times 6 = .ok (.lload_n 2, 1) := by decide +kernel
theorem dX8_times_7 : decode cX8_times 7 = .ok (.ldc2_w 348, 3) := by decide +kernel
theorem dX8_times_10 : decode cX8_times 10 = .ok (.lload_n 0, 1) := by decide +kernel
theorem dX8_times_11 : decode cX8_times 11 = .ok (.ldiv, 1) := by decide +kernel
theorem dX8_times_12 : decode cX8_times 12 = .ok (.lcmp, 1) := by decide +kernel
theorem dX8_times_13 : decode cX8_times 13 = .ok (.ifCond .gt 9, 3) := by decide +kernel
theorem dX8_times_16 : decode cX8_times 16 = .ok (.lload_n 0, 1) := by decide +kernel
theorem dX8_times_17 : decode cX8_times 17 = .ok (.lload_n 2, 1) := by decide +kernel
theorem dX8_times_18 : decode cX8_times 18 = .ok (.lmul, 1) := by decide +kernel
theorem dX8_times_19 : decode cX8_times 19 = .ok (.goto 6, 3) := by decide +kernel
theorem dX8_times_22 : decode cX8_times 22 = .ok (.ldc2_w 350, 3) := by decide +kernel
theorem dX8_times_25 : decode cX8_times 25 = .ok (.lreturn, 1) := by decide +kernel
abbrev rX8_times : Room := { frames := 0, cells := 0, slots := 0, locals := 0 }
theorem cal_X8_times : CalOk yX8_times cX8_times 4 (some .long) 2 := ⟨wm_7_24, wm_1_9, by decide, by decide, by decide +kernel⟩
def f_X8_times (p0 : Int64) (p2 : Int64) (M : Mm) : Option (Int64 × Mm) :=
  (if p0 = (0 : Int64) then
    some ((p0 * p2), M)
  else
    ck (¬ p0 = 0) ((if ((4611686018427387904 : Int64) / p0) < p2 then
      some ((4611686018427387905 : Int64), M)
    else
      some ((p0 * p2), M))))
set_option maxRecDepth 20000 in
set_option maxHeartbeats 4000000 in
theorem t_X8_times (p0 : Int64) (p2 : Int64) (M : Mm) (x : Int64) (M' : Mm) (h : f_X8_times p0 p2 M = some (x, M')) : Ctr yX8_times cX8_times 4 (some .long) rX8_times (fun _ => [.long p0, .long p2]) M (zL x) M' := by
  refine ctr_of (plainFor_of_name (by decide)) (fun _ => Nat.le_of_ble_eq_true rfl) (fun z hz hin hq => ?_)
  have key : Sim z 0 [(0, .long p0), (2, .long p2)] [] M 0 0 (f_X8_times p0 p2 M) (fun a b => a = x ∧ b = M') := by
    have hq : Ret z zL (fun a b => a = x ∧ b = M') := fun a b e => by rw [e.1, e.2]; exact hq
    unfold f_X8_times
    refine r_lload_n hz dX8_times_0 0 rfl ?_
    refine r_lconst (v := 0) hz dX8_times_1 rfl ?_
    refine r_lcmp_eq (tgt := 16) hz dX8_times_2 dX8_times_3 rfl ?_ ?_
    · refine r_lload_n hz dX8_times_16 0 rfl ?_
      refine r_lload_n hz dX8_times_17 1 rfl ?_
      refine r_lmul hz dX8_times_18 ?_
      refine r_goto (tgt := 25) hz dX8_times_19 rfl ?_
      exact r_lret hz hq dX8_times_25 (Nat.le_of_ble_eq_true rfl) (Nat.le_of_ble_eq_true rfl)
    · refine r_lload_n hz dX8_times_6 1 rfl ?_
      refine r_ldc2 (v := 4611686018427387904) hz dX8_times_7 wm_7_21 ?_
      refine r_lload_n hz dX8_times_10 0 rfl ?_
      refine r_ldiv hz dX8_times_11 ?_
      refine r_lcmp_gt (tgt := 22) hz dX8_times_12 dX8_times_13 rfl ?_ ?_
      · refine r_ldc2 (v := 4611686018427387905) hz dX8_times_22 wm_7_25 ?_
        exact r_lret hz hq dX8_times_25 (Nat.le_of_ble_eq_true rfl) (Nat.le_of_ble_eq_true rfl)
      · refine r_lload_n hz dX8_times_16 0 rfl ?_
        refine r_lload_n hz dX8_times_17 1 rfl ?_
        refine r_lmul hz dX8_times_18 ?_
        refine r_goto (tgt := 25) hz dX8_times_19 rfl ?_
        exact r_lret hz hq dX8_times_25 (Nat.le_of_ble_eq_true rfl) (Nat.le_of_ble_eq_true rfl)
  exact key x M' h ⟨rfl, rfl⟩
theorem dX8_power_0 : decode cX8_power 0 = .ok (.lconst 1, 1) := by decide +kernel
theorem dX8_power_1 : decode cX8_power 1 = .ok (.lstore_n 3, 1) := by decide +kernel
theorem dX8_power_2 : decode cX8_power 2 = .ok (.iconst 0, 1) := by decide +kernel
theorem dX8_power_3 : decode cX8_power 3 = .ok (.istore 5, 2) := by decide +kernel
theorem dX8_power_5 : decode cX8_power 5 = .ok (.iload 5, 2) := by decide +kernel
theorem dX8_power_7 : decode cX8_power 7 = .ok (.iload_n 2, 1) := by decide +kernel
theorem dX8_power_8 : decode cX8_power 8 = .ok (.if_icmp .ge 27, 3) := by decide +kernel
theorem dX8_power_11 : decode cX8_power 11 = .ok (.lload_n 3, 1) := by decide +kernel
theorem dX8_power_12 : decode cX8_power 12 = .ok (.ldc2_w 348, 3) := by decide +kernel
theorem dX8_power_15 : decode cX8_power 15 = .ok (.lcmp, 1) := by decide +kernel
theorem dX8_power_16 : decode cX8_power 16 = .ok (.ifCond .le 7, 3) := by decide +kernel
theorem dX8_power_19 : decode cX8_power 19 = .ok (.lload_n 3, 1) := by decide +kernel
theorem dX8_power_20 : decode cX8_power 20 = .ok (.goto 8, 3) := by decide +kernel
theorem dX8_power_23 : decode cX8_power 23 = .ok (.lload_n 3, 1) := by decide +kernel
theorem dX8_power_24 : decode cX8_power 24 = .ok (.lload_n 0, 1) := by decide +kernel
theorem dX8_power_25 : decode cX8_power 25 = .ok (.invokestatic 352, 3) := by decide +kernel
theorem dX8_power_28 : decode cX8_power 28 = .ok (.lstore_n 3, 1) := by decide +kernel
theorem dX8_power_29 : decode cX8_power 29 = .ok (.iinc 5 1, 3) := by decide +kernel
theorem dX8_power_32 : decode cX8_power 32 = .ok (.goto (-27), 3) := by decide +kernel
theorem dX8_power_35 : decode cX8_power 35 = .ok (.lload_n 3, 1) := by decide +kernel
theorem dX8_power_36 : decode cX8_power 36 = .ok (.lreturn, 1) := by decide +kernel
abbrev rX8_power : Room := { frames := 1, cells := 0, slots := 0, locals := 23 }
theorem cal_X8_power : CalOk yX8_power cX8_power 6 (some .long) 2 := ⟨wm_7_20, wm_1_9, by decide, by decide, by decide +kernel⟩
def f_X8_power_5 : Nat → Int64 → Int32 → Int64 → Int32 → Mm → Option (Int64 × Mm)
  | 0, _, _, _, _, _ => none
  | n + 1, x0, x2, x3, x5, M =>
    (if x2 ≤ x5 then
      some (x3, M)
    else
      (if x3 ≤ (4611686018427387904 : Int64) then
        bd (f_X8_times x3 x0 M) fun v2 M1 =>
        f_X8_power_5 n x0 x2 v2 (x5 + (1 : Int32)) M1
      else
        f_X8_power_5 n x0 x2 x3 (x5 + (1 : Int32)) M))
set_option maxRecDepth 20000 in
set_option maxHeartbeats 4000000 in
theorem s_X8_power_5 {z : Zt} {K : Int64 → Mm → Prop} (hz : Good z RX8 cX8_power 6 rX8_power (some .long)) (hq : Ret z zL K) : ∀ (n : Nat) (x0 : Int64) (x2 : Int32) (x3 : Int64) (x5 : Int32) (M : Mm), Sim z 5 [(0, .long x0), (2, .int x2), (3, .long x3), (5, .int x5)] [] M 0 0 (f_X8_power_5 n x0 x2 x3 x5 M) K := by
  intro n
  induction n with
  | zero => exact fun _ _ _ _ _ => r_none
  | succ n ih =>
    intro x0 x2 x3 x5 M
    unfold f_X8_power_5
    refine r_iload hz dX8_power_5 3 rfl ?_
    refine r_iload_n hz dX8_power_7 1 rfl ?_
    refine r_icmp_ge (tgt := 35) hz dX8_power_8 rfl ?_ ?_
    · refine r_lload_n hz dX8_power_35 2 rfl ?_
      exact r_lret hz hq dX8_power_36 (Nat.le_of_ble_eq_true rfl) (Nat.le_of_ble_eq_true rfl)
    · refine r_lload_n hz dX8_power_11 2 rfl ?_
      refine r_ldc2 (v := 4611686018427387904) hz dX8_power_12 wm_7_21 ?_
      refine r_lcmp_le (tgt := 23) hz dX8_power_15 dX8_power_16 rfl ?_ ?_
      · refine r_lload_n hz dX8_power_23 2 rfl ?_
        refine r_lload_n hz dX8_power_24 0 rfl ?_
        refine r_callSl (As := fun _ => [.long x3, .long x0]) hz (fun _ _ h => t_X8_times _ _ _ _ _ h) cal_X8_times dX8_power_25 wm_7_22 wm_7_23 rfl rfl (Nat.le_of_ble_eq_true rfl) ⟨(Nat.le_of_ble_eq_true rfl), (Nat.le_of_ble_eq_true rfl)⟩ ⟨(Nat.le_of_ble_eq_true rfl), (Nat.le_of_ble_eq_true rfl)⟩ (fun v2 M1 => ?_)
        refine r_lstore_n (lv' := [(3, .long v2), (0, .long x0), (2, .int x2), (5, .int x5)]) hz dX8_power_28 (by decide) rfl ?_
        refine r_iinc (v := (x5 + (1 : Int32))) (lv' := [(5, .int (x5 + (1 : Int32))), (3, .long v2), (0, .long x0), (2, .int x2)]) hz dX8_power_29 3 rfl rfl (by decide) rfl ?_
        refine r_goto (tgt := 5) hz dX8_power_32 rfl ?_
        refine r_sub [2, 3, 1, 0] rfl ?_
        exact ih x0 x2 v2 (x5 + (1 : Int32)) M1
      · refine r_lload_n hz dX8_power_19 2 rfl ?_
        refine r_goto (tgt := 28) hz dX8_power_20 rfl ?_
        refine r_lstore_n (lv' := [(3, .long x3), (0, .long x0), (2, .int x2), (5, .int x5)]) hz dX8_power_28 (by decide) rfl ?_
        refine r_iinc (v := (x5 + (1 : Int32))) (lv' := [(5, .int (x5 + (1 : Int32))), (3, .long x3), (0, .long x0), (2, .int x2)]) hz dX8_power_29 3 rfl rfl (by decide) rfl ?_
        refine r_goto (tgt := 5) hz dX8_power_32 rfl ?_
        refine r_sub [2, 3, 1, 0] rfl ?_
        exact ih x0 x2 x3 (x5 + (1 : Int32)) M
def f_X8_power (p0 : Int64) (p2 : Int32) (M : Mm) : Option (Int64 × Mm) :=
  f_X8_power_5 FU p0 p2 (1 : Int64) (0 : Int32) M
set_option maxRecDepth 20000 in
set_option maxHeartbeats 4000000 in
theorem t_X8_power (p0 : Int64) (p2 : Int32) (M : Mm) (x : Int64) (M' : Mm) (h : f_X8_power p0 p2 M = some (x, M')) : Ctr yX8_power cX8_power 6 (some .long) rX8_power (fun _ => [.long p0, .int p2]) M (zL x) M' := by
  refine ctr_of (plainFor_of_name (by decide)) (fun _ => Nat.le_of_ble_eq_true rfl) (fun z hz hin hq => ?_)
  have key : Sim z 0 [(0, .long p0), (2, .int p2)] [] M 0 0 (f_X8_power p0 p2 M) (fun a b => a = x ∧ b = M') := by
    have hq : Ret z zL (fun a b => a = x ∧ b = M') := fun a b e => by rw [e.1, e.2]; exact hq
    unfold f_X8_power
    refine r_lconst (v := 1) hz dX8_power_0 rfl ?_
    refine r_lstore_n (lv' := [(3, .long (1 : Int64)), (0, .long p0), (2, .int p2)]) hz dX8_power_1 (by decide) rfl ?_
    refine r_iconst (v := 0) hz dX8_power_2 rfl ?_
    refine r_istore (lv' := [(5, .int (0 : Int32)), (3, .long (1 : Int64)), (0, .long p0), (2, .int p2)]) hz dX8_power_3 (by decide) rfl ?_
    refine r_sub [2, 3, 1, 0] rfl ?_
    exact s_X8_power_5 hz hq FU p0 p2 (1 : Int64) (0 : Int32) M
  exact key x M' h ⟨rfl, rfl⟩
theorem dX8_common_0 : decode cX8_common 0 = .ok (.lload_n 0, 1) := by decide +kernel
theorem dX8_common_1 : decode cX8_common 1 = .ok (.lstore 4, 2) := by decide +kernel
theorem dX8_common_3 : decode cX8_common 3 = .ok (.lload_n 2, 1) := by decide +kernel
theorem dX8_common_4 : decode cX8_common 4 = .ok (.lstore 6, 2) := by decide +kernel
theorem dX8_common_6 : decode cX8_common 6 = .ok (.lload 6, 2) := by decide +kernel
theorem dX8_common_8 : decode cX8_common 8 = .ok (.lconst 0, 1) := by decide +kernel
theorem dX8_common_9 : decode cX8_common 9 = .ok (.lcmp, 1) := by decide +kernel
theorem dX8_common_10 : decode cX8_common 10 = .ok (.ifCond .eq 21, 3) := by decide +kernel
theorem dX8_common_13 : decode cX8_common 13 = .ok (.lload 4, 2) := by decide +kernel
theorem dX8_common_15 : decode cX8_common 15 = .ok (.lload 6, 2) := by decide +kernel
theorem dX8_common_17 : decode cX8_common 17 = .ok (.lrem, 1) := by decide +kernel
theorem dX8_common_18 : decode cX8_common 18 = .ok (.lstore 8, 2) := by decide +kernel
theorem dX8_common_20 : decode cX8_common 20 = .ok (.lload 6, 2) := by decide +kernel
theorem dX8_common_22 : decode cX8_common 22 = .ok (.lstore 4, 2) := by decide +kernel
theorem dX8_common_24 : decode cX8_common 24 = .ok (.lload 8, 2) := by decide +kernel
theorem dX8_common_26 : decode cX8_common 26 = .ok (.lstore 6, 2) := by decide +kernel
theorem dX8_common_28 : decode cX8_common 28 = .ok (.goto (-22), 3) := by decide +kernel
theorem dX8_common_31 : decode cX8_common 31 = .ok (.lload 4, 2) := by decide +kernel
theorem dX8_common_33 : decode cX8_common 33 = .ok (.lreturn, 1) := by decide +kernel
abbrev rX8_common : Room := { frames := 0, cells := 0, slots := 0, locals := 0 }
theorem cal_X8_common : CalOk yX8_common cX8_common 10 (some .long) 2 := ⟨wm_7_17, wm_1_9, by decide, by decide, by decide +kernel⟩
def f_X8_common_6 : Nat → Int64 → Int64 → Mm → Option (Int64 × Mm)
  | 0, _, _, _ => none
  | n + 1, x4, x6, M =>
    (if x6 = (0 : Int64) then
      some (x4, M)
    else
      ck (¬ x6 = 0) (nm (x4 - x4 / x6 * x6) fun v1 =>
      f_X8_common_6 n x6 v1 M))
set_option maxRecDepth 20000 in
set_option maxHeartbeats 4000000 in
theorem s_X8_common_6 {z : Zt} {K : Int64 → Mm → Prop} (hz : Good z RX8 cX8_common 10 rX8_common (some .long)) (hq : Ret z zL K) : ∀ (n : Nat) (x4 : Int64) (x6 : Int64) (M : Mm), Sim z 6 [(4, .long x4), (6, .long x6)] [] M 0 0 (f_X8_common_6 n x4 x6 M) K := by
  intro n
  induction n with
  | zero => exact fun _ _ _ => r_none
  | succ n ih =>
    intro x4 x6 M
    unfold f_X8_common_6
    refine r_lload hz dX8_common_6 1 rfl ?_
    refine r_lconst (v := 0) hz dX8_common_8 rfl ?_
    refine r_lcmp_eq (tgt := 31) hz dX8_common_9 dX8_common_10 rfl ?_ ?_
    · refine r_lload hz dX8_common_31 0 rfl ?_
      exact r_lret hz hq dX8_common_33 (Nat.le_of_ble_eq_true rfl) (Nat.le_of_ble_eq_true rfl)
    · refine r_lload hz dX8_common_13 0 rfl ?_
      refine r_lload hz dX8_common_15 1 rfl ?_
      refine r_lrem hz dX8_common_17 ?_
      refine r_nml (fun v1 => ?_)
      refine r_lstore (lv' := [(8, .long v1), (4, .long x4), (6, .long x6)]) hz dX8_common_18 (by decide) rfl ?_
      refine r_lload hz dX8_common_20 2 rfl ?_
      refine r_lstore (lv' := [(4, .long x6), (8, .long v1), (6, .long x6)]) hz dX8_common_22 (by decide) rfl ?_
      refine r_lload hz dX8_common_24 1 rfl ?_
      refine r_lstore (lv' := [(6, .long v1), (4, .long x6), (8, .long v1)]) hz dX8_common_26 (by decide) rfl ?_
      refine r_goto (tgt := 6) hz dX8_common_28 rfl ?_
      refine r_sub [1, 0] rfl ?_
      exact ih x6 v1 M
def f_X8_common (p0 : Int64) (p2 : Int64) (M : Mm) : Option (Int64 × Mm) :=
  f_X8_common_6 FU p0 p2 M
set_option maxRecDepth 20000 in
set_option maxHeartbeats 4000000 in
theorem t_X8_common (p0 : Int64) (p2 : Int64) (M : Mm) (x : Int64) (M' : Mm) (h : f_X8_common p0 p2 M = some (x, M')) : Ctr yX8_common cX8_common 10 (some .long) rX8_common (fun _ => [.long p0, .long p2]) M (zL x) M' := by
  refine ctr_of (plainFor_of_name (by decide)) (fun _ => Nat.le_of_ble_eq_true rfl) (fun z hz hin hq => ?_)
  have key : Sim z 0 [(0, .long p0), (2, .long p2)] [] M 0 0 (f_X8_common p0 p2 M) (fun a b => a = x ∧ b = M') := by
    have hq : Ret z zL (fun a b => a = x ∧ b = M') := fun a b e => by rw [e.1, e.2]; exact hq
    unfold f_X8_common
    refine r_lload_n hz dX8_common_0 0 rfl ?_
    refine r_lstore (lv' := [(4, .long p0), (0, .long p0), (2, .long p2)]) hz dX8_common_1 (by decide) rfl ?_
    refine r_lload_n hz dX8_common_3 2 rfl ?_
    refine r_lstore (lv' := [(6, .long p2), (4, .long p0), (0, .long p0), (2, .long p2)]) hz dX8_common_4 (by decide) rfl ?_
    refine r_sub [1, 0] rfl ?_
    exact s_X8_common_6 hz hq FU p0 p2 M
  exact key x M' h ⟨rfl, rfl⟩
theorem dX8_isTold_0 : decode cX8_isTold 0 = .ok (.aload_n 0, 1) := by decide +kernel
theorem dX8_isTold_1 : decode cX8_isTold 1 = .ok (.iload_n 1, 1) := by decide +kernel
theorem dX8_isTold_2 : decode cX8_isTold 2 = .ok (.iconst 3, 1) := by decide +kernel
theorem dX8_isTold_3 : decode cX8_isTold 3 = .ok (.invokevirtual 225, 3) := by decide +kernel
theorem dX8_isTold_6 : decode cX8_isTold 6 = .ok (.aload_n 0, 1) := by decide +kernel
theorem dX8_isTold_7 : decode cX8_isTold 7 = .ok (.getfield 20, 3) := by decide +kernel
theorem dX8_isTold_10 : decode cX8_isTold 10 = .ok (.sipush 1206, 3) := by decide +kernel
theorem dX8_isTold_13 : decode cX8_isTold 13 = .ok (.iaload, 1) := by decide +kernel
theorem dX8_isTold_14 : decode cX8_isTold 14 = .ok (.isub, 1) := by decide +kernel
theorem dX8_isTold_15 : decode cX8_isTold 15 = .ok (.istore_n 3, 1) := by decide +kernel
theorem dX8_isTold_16 : decode cX8_isTold 16 = .ok (.ldc2_w 355, 3) := by decide +kernel
theorem dX8_isTold_19 : decode cX8_isTold 19 = .ok (.ldc2_w 355, 3) := by decide +kernel
theorem dX8_isTold_22 : decode cX8_isTold 22 = .ok (.iload_n 2, 1) := by decide +kernel
theorem dX8_isTold_23 : decode cX8_isTold 23 = .ok (.i2l, 1) := by decide +kernel
theorem dX8_isTold_24 : decode cX8_isTold 24 = .ok (.ladd, 1) := by decide +kernel
theorem dX8_isTold_25 : decode cX8_isTold 25 = .ok (.invokestatic 357, 3) := by decide +kernel
theorem dX8_isTold_28 : decode cX8_isTold 28 = .ok (.lstore 4, 2) := by decide +kernel
theorem dX8_isTold_30 : decode cX8_isTold 30 = .ok (.ldc2_w 355, 3) := by decide +kernel
theorem dX8_isTold_33 : decode cX8_isTold 33 = .ok (.lload 4, 2) := by decide +kernel
theorem dX8_isTold_35 : decode cX8_isTold 35 = .ok (.ldiv, 1) := by decide +kernel
theorem dX8_isTold_36 : decode cX8_isTold 36 = .ok (.lstore 6, 2) := by decide +kernel
theorem dX8_isTold_38 : decode cX8_isTold 38 = .ok (.ldc2_w 355, 3) := by decide +kernel
theorem dX8_isTold_41 : decode cX8_isTold 41 = .ok (.iload_n 2, 1) := by decide +kernel
theorem dX8_isTold_42 : decode cX8_isTold 42 = .ok (.i2l, 1) := by decide +kernel
theorem dX8_isTold_43 : decode cX8_isTold 43 = .ok (.ladd, 1) := by decide +kernel
theorem dX8_isTold_44 : decode cX8_isTold 44 = .ok (.lload 4, 2) := by decide +kernel
theorem dX8_isTold_46 : decode cX8_isTold 46 = .ok (.ldiv, 1) := by decide +kernel
theorem dX8_isTold_47 : decode cX8_isTold 47 = .ok (.lstore 8, 2) := by decide +kernel
theorem dX8_isTold_49 : decode cX8_isTold 49 = .ok (.lload 8, 2) := by decide +kernel
theorem dX8_isTold_51 : decode cX8_isTold 51 = .ok (.iload_n 3, 1) := by decide +kernel
theorem dX8_isTold_52 : decode cX8_isTold 52 = .ok (.invokestatic 360, 3) := by decide +kernel
theorem dX8_isTold_55 : decode cX8_isTold 55 = .ok (.lstore 10, 2) := by decide +kernel
theorem dX8_isTold_57 : decode cX8_isTold 57 = .ok (.aload_n 0, 1) := by decide +kernel
theorem dX8_isTold_58 : decode cX8_isTold 58 = .ok (.lload 10, 2) := by decide +kernel
theorem dX8_isTold_60 : decode cX8_isTold 60 = .ok (.ldc2_w 348, 3) := by decide +kernel
theorem dX8_isTold_63 : decode cX8_isTold 63 = .ok (.lcmp, 1) := by decide +kernel
theorem dX8_isTold_64 : decode cX8_isTold 64 = .ok (.ifCond .le 8, 3) := by decide +kernel
theorem dX8_isTold_67 : decode cX8_isTold 67 = .ok (.lload 10, 2) := by decide +kernel
theorem dX8_isTold_69 : decode cX8_isTold 69 = .ok (.goto 15, 3) := by decide +kernel
theorem dX8_isTold_72 : decode cX8_isTold 72 = .ok (.lload 10, 2) := by decide +kernel
theorem dX8_isTold_74 : decode cX8_isTold 74 = .ok (.aload_n 0, 1) := by decide +kernel
theorem dX8_isTold_75 : decode cX8_isTold 75 = .ok (.iload_n 1, 1) := by decide +kernel
theorem dX8_isTold_76 : decode cX8_isTold 76 = .ok (.iconst 0, 1) := by decide +kernel
theorem dX8_isTold_77 : decode cX8_isTold 77 = .ok (.invokevirtual 232, 3) := by decide +kernel
theorem dX8_isTold_80 : decode cX8_isTold 80 = .ok (.i2l, 1) := by decide +kernel
theorem dX8_isTold_81 : decode cX8_isTold 81 = .ok (.invokestatic 352, 3) := by decide +kernel
theorem dX8_isTold_84 : decode cX8_isTold 84 = .ok (.putfield 364, 3) := by decide +kernel
theorem dX8_isTold_87 : decode cX8_isTold 87 = .ok (.aload_n 0, 1) := by decide +kernel
theorem dX8_isTold_88 : decode cX8_isTold 88 = .ok (.getfield 364, 3) := by decide +kernel
theorem dX8_isTold_91 : decode cX8_isTold 91 = .ok (.ldc2_w 348, 3) := by decide +kernel
theorem dX8_isTold_94 : decode cX8_isTold 94 = .ok (.lcmp, 1) := by decide +kernel
theorem dX8_isTold_95 : decode cX8_isTold 95 = .ok (.ifCond .le 5, 3) := by decide +kernel
theorem dX8_isTold_98 : decode cX8_isTold 98 = .ok (.iconst 0, 1) := by decide +kernel
theorem dX8_isTold_99 : decode cX8_isTold 99 = .ok (.ireturn, 1) := by decide +kernel
theorem dX8_isTold_100 : decode cX8_isTold 100 = .ok (.aload_n 0, 1) := by decide +kernel
theorem dX8_isTold_101 : decode cX8_isTold 101 = .ok (.lconst 0, 1) := by decide +kernel
theorem dX8_isTold_102 : decode cX8_isTold 102 = .ok (.putfield 367, 3) := by decide +kernel
theorem dX8_isTold_105 : decode cX8_isTold 105 = .ok (.iconst 1, 1) := by decide +kernel
theorem dX8_isTold_106 : decode cX8_isTold 106 = .ok (.istore 12, 2) := by decide +kernel
theorem dX8_isTold_108 : decode cX8_isTold 108 = .ok (.iload 12, 2) := by decide +kernel
theorem dX8_isTold_110 : decode cX8_isTold 110 = .ok (.iload_n 3, 1) := by decide +kernel
theorem dX8_isTold_111 : decode cX8_isTold 111 = .ok (.if_icmp .gt 89, 3) := by decide +kernel
theorem dX8_isTold_114 : decode cX8_isTold 114 = .ok (.lload 6, 2) := by decide +kernel
theorem dX8_isTold_116 : decode cX8_isTold 116 = .ok (.iload 12, 2) := by decide +kernel
theorem dX8_isTold_118 : decode cX8_isTold 118 = .ok (.invokestatic 360, 3) := by decide +kernel
theorem dX8_isTold_121 : decode cX8_isTold 121 = .ok (.lload 8, 2) := by decide +kernel
theorem dX8_isTold_123 : decode cX8_isTold 123 = .ok (.iload_n 3, 1) := by decide +kernel
theorem dX8_isTold_124 : decode cX8_isTold 124 = .ok (.iload 12, 2) := by decide +kernel
theorem dX8_isTold_126 : decode cX8_isTold 126 = .ok (.isub, 1) := by decide +kernel
theorem dX8_isTold_127 : decode cX8_isTold 127 = .ok (.invokestatic 360, 3) := by decide +kernel
theorem dX8_isTold_130 : decode cX8_isTold 130 = .ok (.invokestatic 352, 3) := by decide +kernel
theorem dX8_isTold_133 : decode cX8_isTold 133 = .ok (.lstore 13, 2) := by decide +kernel
theorem dX8_isTold_135 : decode cX8_isTold 135 = .ok (.lload 13, 2) := by decide +kernel
theorem dX8_isTold_137 : decode cX8_isTold 137 = .ok (.aload_n 0, 1) := by decide +kernel
theorem dX8_isTold_138 : decode cX8_isTold 138 = .ok (.iload_n 1, 1) := by decide +kernel
theorem dX8_isTold_139 : decode cX8_isTold 139 = .ok (.aload_n 0, 1) := by decide +kernel
theorem dX8_isTold_140 : decode cX8_isTold 140 = .ok (.getfield 20, 3) := by decide +kernel
theorem dX8_isTold_143 : decode cX8_isTold 143 = .ok (.sipush 1206, 3) := by decide +kernel
theorem dX8_isTold_146 : decode cX8_isTold 146 = .ok (.iaload, 1) := by decide +kernel
theorem dX8_isTold_147 : decode cX8_isTold 147 = .ok (.iload 12, 2) := by decide +kernel
theorem dX8_isTold_149 : decode cX8_isTold 149 = .ok (.iadd, 1) := by decide +kernel
theorem dX8_isTold_150 : decode cX8_isTold 150 = .ok (.invokevirtual 337, 3) := by decide +kernel
theorem dX8_isTold_153 : decode cX8_isTold 153 = .ok (.invokestatic 352, 3) := by decide +kernel
theorem dX8_isTold_156 : decode cX8_isTold 156 = .ok (.lstore 15, 2) := by decide +kernel
theorem dX8_isTold_158 : decode cX8_isTold 158 = .ok (.lload 15, 2) := by decide +kernel
theorem dX8_isTold_160 : decode cX8_isTold 160 = .ok (.ldc2_w 348, 3) := by decide +kernel
theorem dX8_isTold_163 : decode cX8_isTold 163 = .ok (.lcmp, 1) := by decide +kernel
theorem dX8_isTold_164 : decode cX8_isTold 164 = .ok (.ifCond .gt 17, 3) := by decide +kernel
theorem dX8_isTold_167 : decode cX8_isTold 167 = .ok (.aload_n 0, 1) := by decide +kernel
theorem dX8_isTold_168 : decode cX8_isTold 168 = .ok (.getfield 367, 3) := by decide +kernel
theorem dX8_isTold_171 : decode cX8_isTold 171 = .ok (.ldc2_w 348, 3) := by decide +kernel
theorem dX8_isTold_174 : decode cX8_isTold 174 = .ok (.lload 15, 2) := by decide +kernel
theorem dX8_isTold_176 : decode cX8_isTold 176 = .ok (.lsub, 1) := by decide +kernel
theorem dX8_isTold_177 : decode cX8_isTold 177 = .ok (.lcmp, 1) := by decide +kernel
theorem dX8_isTold_178 : decode cX8_isTold 178 = .ok (.ifCond .le 5, 3) := by decide +kernel
theorem dX8_isTold_181 : decode cX8_isTold 181 = .ok (.iconst 0, 1) := by decide +kernel
theorem dX8_isTold_182 : decode cX8_isTold 182 = .ok (.ireturn, 1) := by decide +kernel
theorem dX8_isTold_183 : decode cX8_isTold 183 = .ok (.aload_n 0, 1) := by decide +kernel
theorem dX8_isTold_184 : decode cX8_isTold 184 = .ok (.dup, 1) := by decide +kernel
theorem dX8_isTold_185 : decode cX8_isTold 185 = .ok (.getfield 367, 3) := by decide +kernel
theorem dX8_isTold_188 : decode cX8_isTold 188 = .ok (.lload 15, 2) := by decide +kernel
theorem dX8_isTold_190 : decode cX8_isTold 190 = .ok (.ladd, 1) := by decide +kernel
theorem dX8_isTold_191 : decode cX8_isTold 191 = .ok (.putfield 367, 3) := by decide +kernel
theorem dX8_isTold_194 : decode cX8_isTold 194 = .ok (.iinc 12 1, 3) := by decide +kernel
theorem dX8_isTold_197 : decode cX8_isTold 197 = .ok (.goto (-89), 3) := by decide +kernel
theorem dX8_isTold_200 : decode cX8_isTold 200 = .ok (.iconst 1, 1) := by decide +kernel
theorem dX8_isTold_201 : decode cX8_isTold 201 = .ok (.ireturn, 1) := by decide +kernel
abbrev rX8_isTold : Room := { frames := 2, cells := 0, slots := 0, locals := 48 }
theorem cal_X8_isTold : CalOk yX8_isTold cX8_isTold 17 (some .boolean) 2 := ⟨wm_7_13, wm_1_9, by decide, by decide, by decide +kernel⟩
def f_X8_isTold_108 : Nat → Nat → Int32 → Int32 → Int64 → Int64 → Int32 → Mm → Option (Int32 × Mm)
  | 0, _, _, _, _, _, _, _ => none
  | n + 1, x0, x1, x3, x6, x8, x12, M =>
    (if x3 < x12 then
      some ((1 : Int32), M)
    else
      bd (f_X8_power x6 x12 M) fun v2 M1 =>
      bd (f_X8_power x8 (x3 - x12) M1) fun v4 M3 =>
      bd (f_X8_times v2 v4 M3) fun v6 M5 =>
      ck (gK M5 x0 = 8) (bR (gR M5 x0 17) fun q7 => ck (gK M5 q7 = 10 ∧ inb (1206 : Int32) (gN M5 q7)) (ck (gK M5 x0 = 8) (bd (f_X8_paidIn x0 x1 ((gI M5 q7 ((1206 : Int32)).toNatClampNeg) + x12) M5) fun v9 M8 =>
      bd (f_X8_times v6 v9 M8) fun v11 M10 =>
      (if (4611686018427387904 : Int64) < v11 then
        some ((0 : Int32), M10)
      else
        ck (gK M10 x0 = 8) ((if (gL M10 x0 29) ≤ ((4611686018427387904 : Int64) - v11) then
          ck (gK M10 x0 = 8) (ck (gK M10 x0 = 8) (nm (sL M10 x0 29 ((gL M10 x0 29) + v11)) fun M12 =>
          f_X8_isTold_108 n x0 x1 x3 x6 x8 (x12 + (1 : Int32)) M12))
        else
          some ((0 : Int32), M10))))))))
set_option maxRecDepth 20000 in
set_option maxHeartbeats 4000000 in
theorem s_X8_isTold_108 {z : Zt} {K : Int32 → Mm → Prop} (hz : Good z RX8 cX8_isTold 17 rX8_isTold (some .boolean)) (hq : Ret z zI K) : ∀ (n : Nat) (x0 : Nat) (x1 : Int32) (x3 : Int32) (x6 : Int64) (x8 : Int64) (x12 : Int32) (M : Mm), Sim z 108 [(0, .ref x0), (1, .int x1), (3, .int x3), (6, .long x6), (8, .long x8), (12, .int x12)] [] M 0 0 (f_X8_isTold_108 n x0 x1 x3 x6 x8 x12 M) K := by
  intro n
  induction n with
  | zero => exact fun _ _ _ _ _ _ _ => r_none
  | succ n ih =>
    intro x0 x1 x3 x6 x8 x12 M
    unfold f_X8_isTold_108
    refine r_iload hz dX8_isTold_108 5 rfl ?_
    refine r_iload_n hz dX8_isTold_110 2 rfl ?_
    refine r_icmp_gt (tgt := 200) hz dX8_isTold_111 rfl ?_ ?_
    · refine r_iconst (v := 1) hz dX8_isTold_200 rfl ?_
      exact r_zret hz hq dX8_isTold_201 (Or.inr rfl) (Nat.le_of_ble_eq_true rfl) (Nat.le_of_ble_eq_true rfl)
    · refine r_lload hz dX8_isTold_114 3 rfl ?_
      refine r_iload hz dX8_isTold_116 5 rfl ?_
      refine r_callSl (As := fun _ => [.long x6, .int x12]) hz (fun _ _ h => t_X8_power _ _ _ _ _ h) cal_X8_power dX8_isTold_118 wm_7_18 wm_7_19 rfl rfl (Nat.le_of_ble_eq_true rfl) ⟨(Nat.le_of_ble_eq_true rfl), (Nat.le_of_ble_eq_true rfl)⟩ ⟨(Nat.le_of_ble_eq_true rfl), (Nat.le_of_ble_eq_true rfl)⟩ (fun v2 M1 => ?_)
      refine r_lload hz dX8_isTold_121 4 rfl ?_
      refine r_iload_n hz dX8_isTold_123 2 rfl ?_
      refine r_iload hz dX8_isTold_124 5 rfl ?_
      refine r_isub hz dX8_isTold_126 ?_
      refine r_callSl (As := fun _ => [.long x8, .int (x3 - x12)]) hz (fun _ _ h => t_X8_power _ _ _ _ _ h) cal_X8_power dX8_isTold_127 wm_7_18 wm_7_19 rfl rfl (Nat.le_of_ble_eq_true rfl) ⟨(Nat.le_of_ble_eq_true rfl), (Nat.le_of_ble_eq_true rfl)⟩ ⟨(Nat.le_of_ble_eq_true rfl), (Nat.le_of_ble_eq_true rfl)⟩ (fun v4 M3 => ?_)
      refine r_callSl (As := fun _ => [.long v2, .long v4]) hz (fun _ _ h => t_X8_times _ _ _ _ _ h) cal_X8_times dX8_isTold_130 wm_7_22 wm_7_23 rfl rfl (Nat.le_of_ble_eq_true rfl) ⟨(Nat.le_of_ble_eq_true rfl), (Nat.le_of_ble_eq_true rfl)⟩ ⟨(Nat.le_of_ble_eq_true rfl), (Nat.le_of_ble_eq_true rfl)⟩ (fun v6 M5 => ?_)
      refine r_lstore (lv' := [(13, .long v6), (0, .ref x0), (1, .int x1), (3, .int x3), (6, .long x6), (8, .long x8), (12, .int x12)]) hz dX8_isTold_133 (by decide) rfl ?_
      refine r_lload hz dX8_isTold_135 0 rfl ?_
      refine r_aload_n hz dX8_isTold_137 1 rfl ?_
      refine r_iload_n hz dX8_isTold_138 2 rfl ?_
      refine r_aload_n hz dX8_isTold_139 1 rfl ?_
      refine r_getR (j := 17) cl8 hz dX8_isTold_140 (by decide) wm_5_73 rfl (fun q7 => ?_)
      refine r_sipush (v := 1206) hz dX8_isTold_143 rfl ?_
      refine r_iald hz dX8_isTold_146 ?_
      refine r_iload hz dX8_isTold_147 6 rfl ?_
      refine r_iadd hz dX8_isTold_149 ?_
      refine r_callVl (As := fun _ => [.int x1, .int ((gI M5 q7 ((1206 : Int32)).toNatClampNeg) + x12)]) cl8 hz (fun _ _ h => t_X8_paidIn _ _ _ _ _ _ h) cal_X8_paidIn dX8_isTold_150 wm_6_225 wm_6_227 wm_p_84 rfl rfl (Nat.le_of_ble_eq_true rfl) ⟨(Nat.le_of_ble_eq_true rfl), (Nat.le_of_ble_eq_true rfl)⟩ ⟨(Nat.le_of_ble_eq_true rfl), (Nat.le_of_ble_eq_true rfl)⟩ (fun v9 M8 => ?_)
      refine r_callSl (As := fun _ => [.long v6, .long v9]) hz (fun _ _ h => t_X8_times _ _ _ _ _ h) cal_X8_times dX8_isTold_153 wm_7_22 wm_7_23 rfl rfl (Nat.le_of_ble_eq_true rfl) ⟨(Nat.le_of_ble_eq_true rfl), (Nat.le_of_ble_eq_true rfl)⟩ ⟨(Nat.le_of_ble_eq_true rfl), (Nat.le_of_ble_eq_true rfl)⟩ (fun v11 M10 => ?_)
      refine r_lstore (lv' := [(15, .long v11), (13, .long v6), (0, .ref x0), (1, .int x1), (3, .int x3), (6, .long x6), (8, .long x8), (12, .int x12)]) hz dX8_isTold_156 (by decide) rfl ?_
      refine r_lload hz dX8_isTold_158 0 rfl ?_
      refine r_ldc2 (v := 4611686018427387904) hz dX8_isTold_160 wm_7_21 ?_
      refine r_lcmp_gt (tgt := 181) hz dX8_isTold_163 dX8_isTold_164 rfl ?_ ?_
      · refine r_iconst (v := 0) hz dX8_isTold_181 rfl ?_
        exact r_zret hz hq dX8_isTold_182 (Or.inl rfl) (Nat.le_of_ble_eq_true rfl) (Nat.le_of_ble_eq_true rfl)
      · refine r_aload_n hz dX8_isTold_167 2 rfl ?_
        refine r_getL (j := 29) cl8 hz dX8_isTold_168 (by decide) wm_5_85 rfl ?_
        refine r_ldc2 (v := 4611686018427387904) hz dX8_isTold_171 wm_7_21 ?_
        refine r_lload hz dX8_isTold_174 0 rfl ?_
        refine r_lsub hz dX8_isTold_176 ?_
        refine r_lcmp_le (tgt := 183) hz dX8_isTold_177 dX8_isTold_178 rfl ?_ ?_
        · refine r_aload_n hz dX8_isTold_183 2 rfl ?_
          refine r_dup hz dX8_isTold_184 rfl ?_
          refine r_getL (j := 29) cl8 hz dX8_isTold_185 (by decide) wm_5_85 rfl ?_
          refine r_lload hz dX8_isTold_188 0 rfl ?_
          refine r_ladd hz dX8_isTold_190 ?_
          refine r_putL (j := 29) cl8 hz dX8_isTold_191 (by decide) wm_5_85 (Or.inl rfl) rfl rfl rfl ?_
          refine r_nmM (fun M12 => ?_)
          refine r_iinc (v := (x12 + (1 : Int32))) (lv' := [(12, .int (x12 + (1 : Int32))), (15, .long v11), (13, .long v6), (0, .ref x0), (1, .int x1), (3, .int x3), (6, .long x6), (8, .long x8)]) hz dX8_isTold_194 7 rfl rfl (by decide) rfl ?_
          refine r_goto (tgt := 108) hz dX8_isTold_197 rfl ?_
          refine r_sub [3, 4, 5, 6, 7, 0] rfl ?_
          exact ih x0 x1 x3 x6 x8 (x12 + (1 : Int32)) M12
        · refine r_iconst (v := 0) hz dX8_isTold_181 rfl ?_
          exact r_zret hz hq dX8_isTold_182 (Or.inl rfl) (Nat.le_of_ble_eq_true rfl) (Nat.le_of_ble_eq_true rfl)
def f_X8_isTold_84 (x0 : Nat) (x1 : Int32) (x3 : Int32) (x6 : Int64) (x8 : Int64) (y0 : Int64) (y1 : Nat) (M : Mm) : Option (Int32 × Mm) :=
  ck (gK M y1 = 8) (nm (sL M y1 30 y0) fun M1 =>
  ck (gK M1 x0 = 8) ((if (gL M1 x0 30) ≤ (4611686018427387904 : Int64) then
    ck (gK M1 x0 = 8) (nm (sL M1 x0 29 (0 : Int64)) fun M2 =>
    f_X8_isTold_108 FU x0 x1 x3 x6 x8 (1 : Int32) M2)
  else
    some ((0 : Int32), M1))))
set_option maxRecDepth 20000 in
set_option maxHeartbeats 4000000 in
theorem s_X8_isTold_84 {z : Zt} {K : Int32 → Mm → Prop} (hz : Good z RX8 cX8_isTold 17 rX8_isTold (some .boolean)) (hq : Ret z zI K) : ∀ (x0 : Nat) (x1 : Int32) (x3 : Int32) (x6 : Int64) (x8 : Int64) (y0 : Int64) (y1 : Nat) (M : Mm), Sim z 84 [(0, .ref x0), (1, .int x1), (3, .int x3), (6, .long x6), (8, .long x8)] [.long y0, .ref y1] M 0 0 (f_X8_isTold_84 x0 x1 x3 x6 x8 y0 y1 M) K := by
  intro x0 x1 x3 x6 x8 y0 y1 M
  unfold f_X8_isTold_84
  refine r_putL (j := 30) cl8 hz dX8_isTold_84 (by decide) wm_5_86 (Or.inl rfl) rfl rfl rfl ?_
  refine r_nmM (fun M1 => ?_)
  refine r_aload_n hz dX8_isTold_87 0 rfl ?_
  refine r_getL (j := 30) cl8 hz dX8_isTold_88 (by decide) wm_5_86 rfl ?_
  refine r_ldc2 (v := 4611686018427387904) hz dX8_isTold_91 wm_7_21 ?_
  refine r_lcmp_le (tgt := 100) hz dX8_isTold_94 dX8_isTold_95 rfl ?_ ?_
  · refine r_aload_n hz dX8_isTold_100 0 rfl ?_
    refine r_lconst (v := 0) hz dX8_isTold_101 rfl ?_
    refine r_putL (j := 29) cl8 hz dX8_isTold_102 (by decide) wm_5_85 (Or.inl rfl) rfl rfl rfl ?_
    refine r_nmM (fun M2 => ?_)
    refine r_iconst (v := 1) hz dX8_isTold_105 rfl ?_
    refine r_istore (lv' := [(12, .int (1 : Int32)), (0, .ref x0), (1, .int x1), (3, .int x3), (6, .long x6), (8, .long x8)]) hz dX8_isTold_106 (by decide) rfl ?_
    refine r_sub [1, 2, 3, 4, 5, 0] rfl ?_
    exact s_X8_isTold_108 hz hq FU x0 x1 x3 x6 x8 (1 : Int32) M2
  · refine r_iconst (v := 0) hz dX8_isTold_98 rfl ?_
    exact r_zret hz hq dX8_isTold_99 (Or.inl rfl) (Nat.le_of_ble_eq_true rfl) (Nat.le_of_ble_eq_true rfl)
def f_X8_isTold (p0 : Nat) (p1 : Int32) (p2 : Int32) (M : Mm) : Option (Int32 × Mm) :=
  ck (gK M p0 = 8) (bd (f_X8_loanOf p0 p1 (3 : Int32) M) fun v2 M1 =>
  ck (gK M1 p0 = 8) (bR (gR M1 p0 17) fun q3 => ck (gK M1 q3 = 10 ∧ inb (1206 : Int32) (gN M1 q3)) (nm (v2 - (gI M1 q3 ((1206 : Int32)).toNatClampNeg)) fun v4 =>
  bd (f_X8_common (100 : Int64) ((100 : Int64) + (p2).toInt64) M1) fun v6 M5 =>
  ck (¬ v6 = 0) (nm ((100 : Int64) / v6) fun v7 =>
  ck (¬ v6 = 0) (nm (((100 : Int64) + (p2).toInt64) / v6) fun v8 =>
  bd (f_X8_power v8 v4 M5) fun v10 M9 =>
  (if v10 ≤ (4611686018427387904 : Int64) then
    ck (gK M9 p0 = 8) (bd (f_X8_howMany p0 p1 (0 : Int32) M9) fun v12 M11 =>
    bd (f_X8_times v10 (v12).toInt64 M11) fun v14 M13 =>
    f_X8_isTold_84 p0 p1 v4 v7 v8 v14 p0 M13)
  else
    f_X8_isTold_84 p0 p1 v4 v7 v8 v10 p0 M9))))))
set_option maxRecDepth 20000 in
set_option maxHeartbeats 4000000 in
theorem t_X8_isTold (p0 : Nat) (p1 : Int32) (p2 : Int32) (M : Mm) (x : Int32) (M' : Mm) (h : f_X8_isTold p0 p1 p2 M = some (x, M')) : Ctr yX8_isTold cX8_isTold 17 (some .boolean) rX8_isTold (fun _ => [.ref p0, .int p1, .int p2]) M (zI x) M' := by
  refine ctr_of (plainFor_of_name (by decide)) (fun _ => Nat.le_of_ble_eq_true rfl) (fun z hz hin hq => ?_)
  have key : Sim z 0 [(0, .ref p0), (1, .int p1), (2, .int p2)] [] M 0 0 (f_X8_isTold p0 p1 p2 M) (fun a b => a = x ∧ b = M') := by
    have hq : Ret z zI (fun a b => a = x ∧ b = M') := fun a b e => by rw [e.1, e.2]; exact hq
    unfold f_X8_isTold
    refine r_aload_n hz dX8_isTold_0 0 rfl ?_
    refine r_iload_n hz dX8_isTold_1 1 rfl ?_
    refine r_iconst (v := 3) hz dX8_isTold_2 rfl ?_
    refine r_callVi (As := fun _ => [.int p1, .int (3 : Int32)]) cl8 hz (fun _ _ h => t_X8_loanOf _ _ _ _ _ _ h) cal_X8_loanOf dX8_isTold_3 wm_6_68 wm_6_70 wm_p_66 rfl rfl (Nat.le_of_ble_eq_true rfl) ⟨(Nat.le_of_ble_eq_true rfl), (Nat.le_of_ble_eq_true rfl)⟩ ⟨(Nat.le_of_ble_eq_true rfl), (Nat.le_of_ble_eq_true rfl)⟩ (fun v2 M1 => ?_)
    refine r_aload_n hz dX8_isTold_6 0 rfl ?_
    refine r_getR (j := 17) cl8 hz dX8_isTold_7 (by decide) wm_5_73 rfl (fun q3 => ?_)
    refine r_sipush (v := 1206) hz dX8_isTold_10 rfl ?_
    refine r_iald hz dX8_isTold_13 ?_
    refine r_isub hz dX8_isTold_14 ?_
    refine r_nmi (fun v4 => ?_)
    refine r_istore_n (lv' := [(3, .int v4), (0, .ref p0), (1, .int p1), (2, .int p2)]) hz dX8_isTold_15 (by decide) rfl ?_
    refine r_ldc2 (v := 100) hz dX8_isTold_16 wm_7_14 ?_
    refine r_ldc2 (v := 100) hz dX8_isTold_19 wm_7_14 ?_
    refine r_iload_n hz dX8_isTold_22 3 rfl ?_
    refine r_i2l hz dX8_isTold_23 ?_
    refine r_ladd hz dX8_isTold_24 ?_
    refine r_callSl (As := fun _ => [.long (100 : Int64), .long ((100 : Int64) + (p2).toInt64)]) hz (fun _ _ h => t_X8_common _ _ _ _ _ h) cal_X8_common dX8_isTold_25 wm_7_15 wm_7_16 rfl rfl (Nat.le_of_ble_eq_true rfl) ⟨(Nat.le_of_ble_eq_true rfl), (Nat.le_of_ble_eq_true rfl)⟩ ⟨(Nat.le_of_ble_eq_true rfl), (Nat.le_of_ble_eq_true rfl)⟩ (fun v6 M5 => ?_)
    refine r_lstore (lv' := [(4, .long v6), (3, .int v4), (0, .ref p0), (1, .int p1), (2, .int p2)]) hz dX8_isTold_28 (by decide) rfl ?_
    refine r_ldc2 (v := 100) hz dX8_isTold_30 wm_7_14 ?_
    refine r_lload hz dX8_isTold_33 0 rfl ?_
    refine r_ldiv hz dX8_isTold_35 ?_
    refine r_nml (fun v7 => ?_)
    refine r_lstore (lv' := [(6, .long v7), (4, .long v6), (3, .int v4), (0, .ref p0), (1, .int p1), (2, .int p2)]) hz dX8_isTold_36 (by decide) rfl ?_
    refine r_ldc2 (v := 100) hz dX8_isTold_38 wm_7_14 ?_
    refine r_iload_n hz dX8_isTold_41 5 rfl ?_
    refine r_i2l hz dX8_isTold_42 ?_
    refine r_ladd hz dX8_isTold_43 ?_
    refine r_lload hz dX8_isTold_44 1 rfl ?_
    refine r_ldiv hz dX8_isTold_46 ?_
    refine r_nml (fun v8 => ?_)
    refine r_lstore (lv' := [(8, .long v8), (6, .long v7), (4, .long v6), (3, .int v4), (0, .ref p0), (1, .int p1), (2, .int p2)]) hz dX8_isTold_47 (by decide) rfl ?_
    refine r_lload hz dX8_isTold_49 0 rfl ?_
    refine r_iload_n hz dX8_isTold_51 3 rfl ?_
    refine r_callSl (As := fun _ => [.long v8, .int v4]) hz (fun _ _ h => t_X8_power _ _ _ _ _ h) cal_X8_power dX8_isTold_52 wm_7_18 wm_7_19 rfl rfl (Nat.le_of_ble_eq_true rfl) ⟨(Nat.le_of_ble_eq_true rfl), (Nat.le_of_ble_eq_true rfl)⟩ ⟨(Nat.le_of_ble_eq_true rfl), (Nat.le_of_ble_eq_true rfl)⟩ (fun v10 M9 => ?_)
    refine r_lstore (lv' := [(10, .long v10), (8, .long v8), (6, .long v7), (4, .long v6), (3, .int v4), (0, .ref p0), (1, .int p1), (2, .int p2)]) hz dX8_isTold_55 (by decide) rfl ?_
    refine r_aload_n hz dX8_isTold_57 5 rfl ?_
    refine r_lload hz dX8_isTold_58 0 rfl ?_
    refine r_ldc2 (v := 4611686018427387904) hz dX8_isTold_60 wm_7_21 ?_
    refine r_lcmp_le (tgt := 72) hz dX8_isTold_63 dX8_isTold_64 rfl ?_ ?_
    · refine r_lload hz dX8_isTold_72 0 rfl ?_
      refine r_aload_n hz dX8_isTold_74 5 rfl ?_
      refine r_iload_n hz dX8_isTold_75 6 rfl ?_
      refine r_iconst (v := 0) hz dX8_isTold_76 rfl ?_
      refine r_callVi (As := fun _ => [.int p1, .int (0 : Int32)]) cl8 hz (fun _ _ h => t_X8_howMany _ _ _ _ _ _ h) cal_X8_howMany dX8_isTold_77 wm_6_64 wm_6_66 wm_p_65 rfl rfl (Nat.le_of_ble_eq_true rfl) ⟨(Nat.le_of_ble_eq_true rfl), (Nat.le_of_ble_eq_true rfl)⟩ ⟨(Nat.le_of_ble_eq_true rfl), (Nat.le_of_ble_eq_true rfl)⟩ (fun v12 M11 => ?_)
      refine r_i2l hz dX8_isTold_80 ?_
      refine r_callSl (As := fun _ => [.long v10, .long (v12).toInt64]) hz (fun _ _ h => t_X8_times _ _ _ _ _ h) cal_X8_times dX8_isTold_81 wm_7_22 wm_7_23 rfl rfl (Nat.le_of_ble_eq_true rfl) ⟨(Nat.le_of_ble_eq_true rfl), (Nat.le_of_ble_eq_true rfl)⟩ ⟨(Nat.le_of_ble_eq_true rfl), (Nat.le_of_ble_eq_true rfl)⟩ (fun v14 M13 => ?_)
      refine r_sub [5, 6, 4, 2, 1] rfl ?_
      exact s_X8_isTold_84 hz hq p0 p1 v4 v7 v8 v14 p0 M13
    · refine r_lload hz dX8_isTold_67 0 rfl ?_
      refine r_goto (tgt := 84) hz dX8_isTold_69 rfl ?_
      refine r_sub [5, 6, 4, 2, 1] rfl ?_
      exact s_X8_isTold_84 hz hq p0 p1 v4 v7 v8 v10 p0 M9
  exact key x M' h ⟨rfl, rfl⟩
