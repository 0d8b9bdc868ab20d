theorem dX8_worth_0 : decode cX8_worth 0 = .ok (.aload_n 0, 1) := by decide +kernel
theorem dX8_worth_1 : decode cX8_worth 1 = .ok (.iconst 0, 1) := by decide +kernel
theorem dX8_worth_2 : decode cX8_worth 2 = .ok (.putfield 46, 3) := by decide +kernel
theorem dX8_worth_5 : decode cX8_worth 5 = .ok (.aload_n 0, 1) := by decide +kernel
theorem dX8_worth_6 : decode cX8_worth 6 = .ok (.iload_n 1, 1) := by decide +kernel
theorem dX8_worth_7 : decode cX8_worth 7 = .ok (.invokevirtual 341, 3) := by decide +kernel
theorem dX8_worth_10 : decode cX8_worth 10 = .ok (.ifCond .eq 15, 3) := by decide +kernel
theorem dX8_worth_13 : decode cX8_worth 13 = .ok (.iload_n 2, 1) := by decide +kernel
theorem dX8_worth_14 : decode cX8_worth 14 = .ok (.i2l, 1) := by decide +kernel
theorem dX8_worth_15 : decode cX8_worth 15 = .ok (.lconst 0, 1) := by decide +kernel
theorem dX8_worth_16 : decode cX8_worth 16 = .ok (.ldc2_w 370, 3) := by decide +kernel
theorem dX8_worth_19 : decode cX8_worth 19 = .ok (.invokestatic 83, 3) := by decide +kernel
theorem dX8_worth_22 : decode cX8_worth 22 = .ok (.ifCond .ne 7, 3) := by decide +kernel
theorem dX8_worth_25 : decode cX8_worth 25 = .ok (.ldc2_w 335, 3) := by decide +kernel
theorem dX8_worth_28 : decode cX8_worth 28 = .ok (.lreturn, 1) := by decide +kernel
theorem dX8_worth_29 : decode cX8_worth 29 = .ok (.aload_n 0, 1) := by decide +kernel
theorem dX8_worth_30 : decode cX8_worth 30 = .ok (.iload_n 1, 1) := by decide +kernel
theorem dX8_worth_31 : decode cX8_worth 31 = .ok (.invokevirtual 333, 3) := by decide +kernel
theorem dX8_worth_34 : decode cX8_worth 34 = .ok (.aload_n 0, 1) := by decide +kernel
theorem dX8_worth_35 : decode cX8_worth 35 = .ok (.iload_n 1, 1) := by decide +kernel
theorem dX8_worth_36 : decode cX8_worth 36 = .ok (.iload_n 2, 1) := by decide +kernel
theorem dX8_worth_37 : decode cX8_worth 37 = .ok (.invokevirtual 372, 3) := by decide +kernel
theorem dX8_worth_40 : decode cX8_worth 40 = .ok (.ifCond .eq 18, 3) := by decide +kernel
theorem dX8_worth_43 : decode cX8_worth 43 = .ok (.aload_n 0, 1) := by decide +kernel
theorem dX8_worth_44 : decode cX8_worth 44 = .ok (.aload_n 0, 1) := by decide +kernel
theorem dX8_worth_45 : decode cX8_worth 45 = .ok (.getfield 367, 3) := by decide +kernel
theorem dX8_worth_48 : decode cX8_worth 48 = .ok (.aload_n 0, 1) := by decide +kernel
theorem dX8_worth_49 : decode cX8_worth 49 = .ok (.getfield 364, 3) := by decide +kernel
theorem dX8_worth_52 : decode cX8_worth 52 = .ok (.invokevirtual 344, 3) := by decide +kernel
theorem dX8_worth_55 : decode cX8_worth 55 = .ok (.goto 6, 3) := by decide +kernel
theorem dX8_worth_58 : decode cX8_worth 58 = .ok (.ldc2_w 375, 3) := by decide +kernel
theorem dX8_worth_61 : decode cX8_worth 61 = .ok (.lreturn, 1) := by decide +kernel
abbrev rX8_worth : Room := { frames := 4, cells := 0, slots := 0, locals := 100 }
theorem cal_X8_worth : CalOk yX8_worth cX8_worth 3 (some .long) 2 := ⟨wm_7_8, wm_1_9, by decide, by decide, by decide +kernel⟩
def f_X8_worth (p0 : Nat) (p1 : Int32) (p2 : Int32) (M : Mm) : Option (Int64 × Mm) :=
  ck (gK M p0 = 8) (nm (sI M p0 0 (0 : Int32)) fun M1 =>
  ck (gK M1 p0 = 8) (bd (f_X8_hasAny p0 p1 M1) fun v3 M2 =>
  (if v3 = 0 then
    some ((-1 : Int64), M2)
  else
    bd (f_X8_within (p2).toInt64 (0 : Int64) (99 : Int64) M2) fun v5 M4 =>
    (if ¬ v5 = 0 then
      ck (gK M4 p0 = 8) (bd (f_X8_tells_ p0 p1 M4) fun _ M6 =>
      ck (gK M6 p0 = 8) (bd (f_X8_isTold p0 p1 p2 M6) fun v8 M7 =>
      (if v8 = 0 then
        some ((-2 : Int64), M7)
      else
        ck (gK M7 p0 = 8) (ck (gK M7 p0 = 8) (ck (gK M7 p0 = 8) (bd (f_X8_least p0 (gL M7 p0 29) (gL M7 p0 30) M7) fun v10 M9 =>
        some (v10, M9)))))))
    else
      some ((-1 : Int64), M4)))))
set_option maxRecDepth 20000 in
set_option maxHeartbeats 4000000 in
theorem t_X8_worth (p0 : Nat) (p1 : Int32) (p2 : Int32) (M : Mm) (x : Int64) (M' : Mm) (h : f_X8_worth p0 p1 p2 M = some (x, M')) : Ctr yX8_worth cX8_worth 3 (some .long) rX8_worth (fun _ => [.ref p0, .int p1, .int p2]) M (zL x) M' := by
  refine ctr_of (plainFor_of_name (by decide)) (fun _ => Nat.le_of_ble_eq_true rfl) (fun z hz hin hq => ?_)
  have key : Sim z 0 [(0, .ref p0), (1, .int p1), (2, .int p2)] [] M 0 0 (f_X8_worth p0 p1 p2 M) (fun a b => a = x ∧ b = M') := by
    have hq : Ret z zL (fun a b => a = x ∧ b = M') := fun a b e => by rw [e.1, e.2]; exact hq
    unfold f_X8_worth
    refine r_aload_n hz dX8_worth_0 0 rfl ?_
    refine r_iconst (v := 0) hz dX8_worth_1 rfl ?_
    refine r_putI (j := 0) cl8 hz dX8_worth_2 (by decide) wm_5_56 (Or.inl rfl) rfl rfl rfl ?_
    refine r_nmM (fun M1 => ?_)
    refine r_aload_n hz dX8_worth_5 0 rfl ?_
    refine r_iload_n hz dX8_worth_6 1 rfl ?_
    refine r_callVi (As := fun _ => [.int p1]) cl8 hz (fun _ _ h => t_X8_hasAny _ _ _ _ _ h) cal_X8_hasAny dX8_worth_7 wm_6_237 wm_6_239 wm_p_85 rfl rfl (Nat.le_of_ble_eq_true rfl) ⟨(Nat.le_of_ble_eq_true rfl), (Nat.le_of_ble_eq_true rfl)⟩ ⟨(Nat.le_of_ble_eq_true rfl), (Nat.le_of_ble_eq_true rfl)⟩ (fun v3 M2 => ?_)
    refine r_if_eq (tgt := 25) hz dX8_worth_10 rfl ?_ ?_
    · refine r_ldc2 (v := -1) hz dX8_worth_25 wm_6_224 ?_
      exact r_lret hz hq dX8_worth_28 (Nat.le_of_ble_eq_true rfl) (Nat.le_of_ble_eq_true rfl)
    · refine r_iload_n hz dX8_worth_13 2 rfl ?_
      refine r_i2l hz dX8_worth_14 ?_
      refine r_lconst (v := 0) hz dX8_worth_15 rfl ?_
      refine r_ldc2 (v := 99) hz dX8_worth_16 wm_7_9 ?_
      refine r_callSi (As := fun _ => [.long (p2).toInt64, .long (0 : Int64), .long (99 : Int64)]) hz (fun _ _ h => t_X8_within _ _ _ _ _ _ h) cal_X8_within dX8_worth_19 wm_5_175 wm_5_176 rfl rfl (Nat.le_of_ble_eq_true rfl) ⟨(Nat.le_of_ble_eq_true rfl), (Nat.le_of_ble_eq_true rfl)⟩ ⟨(Nat.le_of_ble_eq_true rfl), (Nat.le_of_ble_eq_true rfl)⟩ (fun v5 M4 => ?_)
      refine r_if_ne (tgt := 29) hz dX8_worth_22 rfl ?_ ?_
      · refine r_aload_n hz dX8_worth_29 0 rfl ?_
        refine r_iload_n hz dX8_worth_30 1 rfl ?_
        refine r_callVv (As := fun _ => [.int p1]) cl8 hz (fun _ _ h => t_X8_tells_ _ _ _ _ _ h) cal_X8_tells_ dX8_worth_31 wm_6_212 wm_6_214 wm_p_82 rfl rfl (Nat.le_of_ble_eq_true rfl) ⟨(Nat.le_of_ble_eq_true rfl), (Nat.le_of_ble_eq_true rfl)⟩ ⟨(Nat.le_of_ble_eq_true rfl), (Nat.le_of_ble_eq_true rfl)⟩ (fun _ M6 => ?_)
        refine r_aload_n hz dX8_worth_34 0 rfl ?_
        refine r_iload_n hz dX8_worth_35 1 rfl ?_
        refine r_iload_n hz dX8_worth_36 2 rfl ?_
        refine r_callVi (As := fun _ => [.int p1, .int p2]) cl8 hz (fun _ _ h => t_X8_isTold _ _ _ _ _ _ h) cal_X8_isTold dX8_worth_37 wm_7_10 wm_7_12 wm_p_87 rfl rfl (Nat.le_of_ble_eq_true rfl) ⟨(Nat.le_of_ble_eq_true rfl), (Nat.le_of_ble_eq_true rfl)⟩ ⟨(Nat.le_of_ble_eq_true rfl), (Nat.le_of_ble_eq_true rfl)⟩ (fun v8 M7 => ?_)
        refine r_if_eq (tgt := 58) hz dX8_worth_40 rfl ?_ ?_
        · refine r_ldc2 (v := -2) hz dX8_worth_58 wm_7_26 ?_
          exact r_lret hz hq dX8_worth_61 (Nat.le_of_ble_eq_true rfl) (Nat.le_of_ble_eq_true rfl)
        · refine r_aload_n hz dX8_worth_43 0 rfl ?_
          refine r_aload_n hz dX8_worth_44 0 rfl ?_
          refine r_getL (j := 29) cl8 hz dX8_worth_45 (by decide) wm_5_85 rfl ?_
          refine r_aload_n hz dX8_worth_48 0 rfl ?_
          refine r_getL (j := 30) cl8 hz dX8_worth_49 (by decide) wm_5_86 rfl ?_
          refine r_callVl (As := fun _ => [.long (gL M7 p0 29), .long (gL M7 p0 30)]) cl8 hz (fun _ _ h => t_X8_least _ _ _ _ _ _ h) cal_X8_least dX8_worth_52 wm_7_1 wm_7_3 wm_p_86 rfl rfl (Nat.le_of_ble_eq_true rfl) ⟨(Nat.le_of_ble_eq_true rfl), (Nat.le_of_ble_eq_true rfl)⟩ ⟨(Nat.le_of_ble_eq_true rfl), (Nat.le_of_ble_eq_true rfl)⟩ (fun v10 M9 => ?_)
          refine r_goto (tgt := 61) hz dX8_worth_55 rfl ?_
          exact r_lret hz hq dX8_worth_61 (Nat.le_of_ble_eq_true rfl) (Nat.le_of_ble_eq_true rfl)
      · refine r_ldc2 (v := -1) hz dX8_worth_25 wm_6_224 ?_
        exact r_lret hz hq dX8_worth_28 (Nat.le_of_ble_eq_true rfl) (Nat.le_of_ble_eq_true rfl)
  exact key x M' h ⟨rfl, rfl⟩
theorem dX8_life_0 : decode cX8_life 0 = .ok (.aload_n 0, 1) := by decide +kernel
theorem dX8_life_1 : decode cX8_life 1 = .ok (.iconst 0, 1) := by decide +kernel
theorem dX8_life_2 : decode cX8_life 2 = .ok (.putfield 46, 3) := by decide +kernel
theorem dX8_life_5 : decode cX8_life 5 = .ok (.aload_n 0, 1) := by decide +kernel
theorem dX8_life_6 : decode cX8_life 6 = .ok (.iload_n 1, 1) := by decide +kernel
theorem dX8_life_7 : decode cX8_life 7 = .ok (.invokevirtual 341, 3) := by decide +kernel
theorem dX8_life_10 : decode cX8_life 10 = .ok (.ifCond .ne 7, 3) := by decide +kernel
theorem dX8_life_13 : decode cX8_life 13 = .ok (.ldc2_w 335, 3) := by decide +kernel
theorem dX8_life_16 : decode cX8_life 16 = .ok (.lreturn, 1) := by decide +kernel
theorem dX8_life_17 : decode cX8_life 17 = .ok (.aload_n 0, 1) := by decide +kernel
theorem dX8_life_18 : decode cX8_life 18 = .ok (.iload_n 1, 1) := by decide +kernel
theorem dX8_life_19 : decode cX8_life 19 = .ok (.invokevirtual 333, 3) := by decide +kernel
theorem dX8_life_22 : decode cX8_life 22 = .ok (.lconst 0, 1) := by decide +kernel
theorem dX8_life_23 : decode cX8_life 23 = .ok (.lstore_n 2, 1) := by decide +kernel
theorem dX8_life_24 : decode cX8_life 24 = .ok (.aload_n 0, 1) := by decide +kernel
theorem dX8_life_25 : decode cX8_life 25 = .ok (.getfield 20, 3) := by decide +kernel
theorem dX8_life_28 : decode cX8_life 28 = .ok (.sipush 1206, 3) := by decide +kernel
theorem dX8_life_31 : decode cX8_life 31 = .ok (.iaload, 1) := by decide +kernel
theorem dX8_life_32 : decode cX8_life 32 = .ok (.iconst 1, 1) := by decide +kernel
theorem dX8_life_33 : decode cX8_life 33 = .ok (.iadd, 1) := by decide +kernel
theorem dX8_life_34 : decode cX8_life 34 = .ok (.istore 4, 2) := by decide +kernel
theorem dX8_life_36 : decode cX8_life 36 = .ok (.iload 4, 2) := by decide +kernel
theorem dX8_life_38 : decode cX8_life 38 = .ok (.aload_n 0, 1) := by decide +kernel
theorem dX8_life_39 : decode cX8_life 39 = .ok (.iload_n 1, 1) := by decide +kernel
theorem dX8_life_40 : decode cX8_life 40 = .ok (.iconst 3, 1) := by decide +kernel
theorem dX8_life_41 : decode cX8_life 41 = .ok (.invokevirtual 225, 3) := by decide +kernel
theorem dX8_life_44 : decode cX8_life 44 = .ok (.if_icmp .gt 38, 3) := by decide +kernel
theorem dX8_life_47 : decode cX8_life 47 = .ok (.lload_n 2, 1) := by decide +kernel
theorem dX8_life_48 : decode cX8_life 48 = .ok (.iload 4, 2) := by decide +kernel
theorem dX8_life_50 : decode cX8_life 50 = .ok (.aload_n 0, 1) := by decide +kernel
theorem dX8_life_51 : decode cX8_life 51 = .ok (.getfield 20, 3) := by decide +kernel
theorem dX8_life_54 : decode cX8_life 54 = .ok (.sipush 1206, 3) := by decide +kernel
theorem dX8_life_57 : decode cX8_life 57 = .ok (.iaload, 1) := by decide +kernel
theorem dX8_life_58 : decode cX8_life 58 = .ok (.isub, 1) := by decide +kernel
theorem dX8_life_59 : decode cX8_life 59 = .ok (.i2l, 1) := by decide +kernel
theorem dX8_life_60 : decode cX8_life 60 = .ok (.aload_n 0, 1) := by decide +kernel
theorem dX8_life_61 : decode cX8_life 61 = .ok (.getfield 36, 3) := by decide +kernel
theorem dX8_life_64 : decode cX8_life 64 = .ok (.bipush 6, 2) := by decide +kernel
theorem dX8_life_66 : decode cX8_life 66 = .ok (.iload 4, 2) := by decide +kernel
theorem dX8_life_68 : decode cX8_life 68 = .ok (.imul, 1) := by decide +kernel
theorem dX8_life_69 : decode cX8_life 69 = .ok (.iconst 2, 1) := by decide +kernel
theorem dX8_life_70 : decode cX8_life 70 = .ok (.iadd, 1) := by decide +kernel
theorem dX8_life_71 : decode cX8_life 71 = .ok (.iaload, 1) := by decide +kernel
theorem dX8_life_72 : decode cX8_life 72 = .ok (.i2l, 1) := by decide +kernel
theorem dX8_life_73 : decode cX8_life 73 = .ok (.lmul, 1) := by decide +kernel
theorem dX8_life_74 : decode cX8_life 74 = .ok (.ladd, 1) := by decide +kernel
theorem dX8_life_75 : decode cX8_life 75 = .ok (.lstore_n 2, 1) := by decide +kernel
theorem dX8_life_76 : decode cX8_life 76 = .ok (.iinc 4 1, 3) := by decide +kernel
theorem dX8_life_79 : decode cX8_life 79 = .ok (.goto (-43), 3) := by decide +kernel
theorem dX8_life_82 : decode cX8_life 82 = .ok (.aload_n 0, 1) := by decide +kernel
theorem dX8_life_83 : decode cX8_life 83 = .ok (.lload_n 2, 1) := by decide +kernel
theorem dX8_life_84 : decode cX8_life 84 = .ok (.aload_n 0, 1) := by decide +kernel
theorem dX8_life_85 : decode cX8_life 85 = .ok (.iload_n 1, 1) := by decide +kernel
theorem dX8_life_86 : decode cX8_life 86 = .ok (.iconst 0, 1) := by decide +kernel
theorem dX8_life_87 : decode cX8_life 87 = .ok (.invokevirtual 232, 3) := by decide +kernel
theorem dX8_life_90 : decode cX8_life 90 = .ok (.i2l, 1) := by decide +kernel
theorem dX8_life_91 : decode cX8_life 91 = .ok (.invokevirtual 344, 3) := by decide +kernel
theorem dX8_life_94 : decode cX8_life 94 = .ok (.lreturn, 1) := by decide +kernel
abbrev rX8_life : Room := { frames := 4, cells := 0, slots := 0, locals := 100 }
theorem cal_X8_life : CalOk yX8_life cX8_life 5 (some .long) 1 := ⟨wm_7_30, wm_1_9, by decide, by decide, by decide +kernel⟩
def f_X8_life_36 : Nat → Nat → Int32 → Int64 → Int32 → Mm → Option (Int64 × Mm)
  | 0, _, _, _, _, _ => none
  | n + 1, x0, x1, x2, x4, M =>
    ck (gK M x0 = 8) (bd (f_X8_loanOf x0 x1 (3 : Int32) M) fun v2 M1 =>
    (if v2 < x4 then
      ck (gK M1 x0 = 8) (bd (f_X8_howMany x0 x1 (0 : Int32) M1) fun v4 M3 =>
      ck (gK M3 x0 = 8) (bd (f_X8_least x0 x2 (v4).toInt64 M3) fun v6 M5 =>
      some (v6, M5)))
    else
      ck (gK M1 x0 = 8) (bR (gR M1 x0 17) fun q7 => ck (gK M1 q7 = 10 ∧ inb (1206 : Int32) (gN M1 q7)) (ck (gK M1 x0 = 8) (bR (gR M1 x0 27) fun q8 => ck (gK M1 q8 = 10 ∧ inb (((6 : Int32) * x4) + (2 : Int32)) (gN M1 q8)) (nm (x2 + (((x4 - (gI M1 q7 ((1206 : Int32)).toNatClampNeg))).toInt64 * ((gI M1 q8 ((((6 : Int32) * x4) + (2 : Int32))).toNatClampNeg)).toInt64)) fun v9 =>
      f_X8_life_36 n x0 x1 v9 (x4 + (1 : Int32)) M1))))))
set_option maxRecDepth 20000 in
set_option maxHeartbeats 4000000 in
theorem s_X8_life_36 {z : Zt} {K : Int64 → Mm → Prop} (hz : Good z RX8 cX8_life 5 rX8_life (some .long)) (hq : Ret z zL K) : ∀ (n : Nat) (x0 : Nat) (x1 : Int32) (x2 : Int64) (x4 : Int32) (M : Mm), Sim z 36 [(0, .ref x0), (1, .int x1), (2, .long x2), (4, .int x4)] [] M 0 0 (f_X8_life_36 n x0 x1 x2 x4 M) K := by
  intro n
  induction n with
  | zero => exact fun _ _ _ _ _ => r_none
  | succ n ih =>
    intro x0 x1 x2 x4 M
    unfold f_X8_life_36
    refine r_iload hz dX8_life_36 3 rfl ?_
    refine r_aload_n hz dX8_life_38 0 rfl ?_
    refine r_iload_n hz dX8_life_39 1 rfl ?_
    refine r_iconst (v := 3) hz dX8_life_40 rfl ?_
    refine r_callVi (As := fun _ => [.int x1, .int (3 : Int32)]) cl8 hz (fun _ _ h => t_X8_loanOf _ _ _ _ _ _ h) cal_X8_loanOf dX8_life_41 wm_6_68 wm_6_70 wm_p_66 rfl rfl (Nat.le_of_ble_eq_true rfl) ⟨(Nat.le_of_ble_eq_true rfl), (Nat.le_of_ble_eq_true rfl)⟩ ⟨(Nat.le_of_ble_eq_true rfl), (Nat.le_of_ble_eq_true rfl)⟩ (fun v2 M1 => ?_)
    refine r_icmp_gt (tgt := 82) hz dX8_life_44 rfl ?_ ?_
    · refine r_aload_n hz dX8_life_82 0 rfl ?_
      refine r_lload_n hz dX8_life_83 2 rfl ?_
      refine r_aload_n hz dX8_life_84 0 rfl ?_
      refine r_iload_n hz dX8_life_85 1 rfl ?_
      refine r_iconst (v := 0) hz dX8_life_86 rfl ?_
      refine r_callVi (As := fun _ => [.int x1, .int (0 : Int32)]) cl8 hz (fun _ _ h => t_X8_howMany _ _ _ _ _ _ h) cal_X8_howMany dX8_life_87 wm_6_64 wm_6_66 wm_p_65 rfl rfl (Nat.le_of_ble_eq_true rfl) ⟨(Nat.le_of_ble_eq_true rfl), (Nat.le_of_ble_eq_true rfl)⟩ ⟨(Nat.le_of_ble_eq_true rfl), (Nat.le_of_ble_eq_true rfl)⟩ (fun v4 M3 => ?_)
      refine r_i2l hz dX8_life_90 ?_
      refine r_callVl (As := fun _ => [.long x2, .long (v4).toInt64]) cl8 hz (fun _ _ h => t_X8_least _ _ _ _ _ _ h) cal_X8_least dX8_life_91 wm_7_1 wm_7_3 wm_p_86 rfl rfl (Nat.le_of_ble_eq_true rfl) ⟨(Nat.le_of_ble_eq_true rfl), (Nat.le_of_ble_eq_true rfl)⟩ ⟨(Nat.le_of_ble_eq_true rfl), (Nat.le_of_ble_eq_true rfl)⟩ (fun v6 M5 => ?_)
      exact r_lret hz hq dX8_life_94 (Nat.le_of_ble_eq_true rfl) (Nat.le_of_ble_eq_true rfl)
    · refine r_lload_n hz dX8_life_47 2 rfl ?_
      refine r_iload hz dX8_life_48 3 rfl ?_
      refine r_aload_n hz dX8_life_50 0 rfl ?_
      refine r_getR (j := 17) cl8 hz dX8_life_51 (by decide) wm_5_73 rfl (fun q7 => ?_)
      refine r_sipush (v := 1206) hz dX8_life_54 rfl ?_
      refine r_iald hz dX8_life_57 ?_
      refine r_isub hz dX8_life_58 ?_
      refine r_i2l hz dX8_life_59 ?_
      refine r_aload_n hz dX8_life_60 0 rfl ?_
      refine r_getR (j := 27) cl8 hz dX8_life_61 (by decide) wm_5_83 rfl (fun q8 => ?_)
      refine r_bipush (v := 6) hz dX8_life_64 rfl ?_
      refine r_iload hz dX8_life_66 3 rfl ?_
      refine r_imul hz dX8_life_68 ?_
      refine r_iconst (v := 2) hz dX8_life_69 rfl ?_
      refine r_iadd hz dX8_life_70 ?_
      refine r_iald hz dX8_life_71 ?_
      refine r_i2l hz dX8_life_72 ?_
      refine r_lmul hz dX8_life_73 ?_
      refine r_ladd hz dX8_life_74 ?_
      refine r_nml (fun v9 => ?_)
      refine r_lstore_n (lv' := [(2, .long v9), (0, .ref x0), (1, .int x1), (4, .int x4)]) hz dX8_life_75 (by decide) rfl ?_
      refine r_iinc (v := (x4 + (1 : Int32))) (lv' := [(4, .int (x4 + (1 : Int32))), (2, .long v9), (0, .ref x0), (1, .int x1)]) hz dX8_life_76 3 rfl rfl (by decide) rfl ?_
      refine r_goto (tgt := 36) hz dX8_life_79 rfl ?_
      refine r_sub [2, 3, 1, 0] rfl ?_
      exact ih x0 x1 v9 (x4 + (1 : Int32)) M1
def f_X8_life (p0 : Nat) (p1 : Int32) (M : Mm) : Option (Int64 × Mm) :=
  ck (gK M p0 = 8) (nm (sI M p0 0 (0 : Int32)) fun M1 =>
  ck (gK M1 p0 = 8) (bd (f_X8_hasAny p0 p1 M1) fun v3 M2 =>
  (if ¬ v3 = 0 then
    ck (gK M2 p0 = 8) (bd (f_X8_tells_ p0 p1 M2) fun _ M4 =>
    ck (gK M4 p0 = 8) (bR (gR M4 p0 17) fun q5 => ck (gK M4 q5 = 10 ∧ inb (1206 : Int32) (gN M4 q5)) (nm ((gI M4 q5 ((1206 : Int32)).toNatClampNeg) + (1 : Int32)) fun v6 =>
    f_X8_life_36 FU p0 p1 (0 : Int64) v6 M4)))
  else
    some ((-1 : Int64), M2))))
set_option maxRecDepth 20000 in
set_option maxHeartbeats 4000000 in
theorem t_X8_life (p0 : Nat) (p1 : Int32) (M : Mm) (x : Int64) (M' : Mm) (h : f_X8_life p0 p1 M = some (x, M')) : Ctr yX8_life cX8_life 5 (some .long) rX8_life (fun _ => [.ref p0, .int p1]) M (zL x) M' := by
  refine ctr_of (plainFor_of_name (by decide)) (fun _ => Nat.le_of_ble_eq_true rfl) (fun z hz hin hq => ?_)
  have key : Sim z 0 [(0, .ref p0), (1, .int p1)] [] M 0 0 (f_X8_life p0 p1 M) (fun a b => a = x ∧ b = M') := by
    have hq : Ret z zL (fun a b => a = x ∧ b = M') := fun a b e => by rw [e.1, e.2]; exact hq
    unfold f_X8_life
    refine r_aload_n hz dX8_life_0 0 rfl ?_
    refine r_iconst (v := 0) hz dX8_life_1 rfl ?_
    refine r_putI (j := 0) cl8 hz dX8_life_2 (by decide) wm_5_56 (Or.inl rfl) rfl rfl rfl ?_
    refine r_nmM (fun M1 => ?_)
    refine r_aload_n hz dX8_life_5 0 rfl ?_
    refine r_iload_n hz dX8_life_6 1 rfl ?_
    refine r_callVi (As := fun _ => [.int p1]) cl8 hz (fun _ _ h => t_X8_hasAny _ _ _ _ _ h) cal_X8_hasAny dX8_life_7 wm_6_237 wm_6_239 wm_p_85 rfl rfl (Nat.le_of_ble_eq_true rfl) ⟨(Nat.le_of_ble_eq_true rfl), (Nat.le_of_ble_eq_true rfl)⟩ ⟨(Nat.le_of_ble_eq_true rfl), (Nat.le_of_ble_eq_true rfl)⟩ (fun v3 M2 => ?_)
    refine r_if_ne (tgt := 17) hz dX8_life_10 rfl ?_ ?_
    · refine r_aload_n hz dX8_life_17 0 rfl ?_
      refine r_iload_n hz dX8_life_18 1 rfl ?_
      refine r_callVv (As := fun _ => [.int p1]) cl8 hz (fun _ _ h => t_X8_tells_ _ _ _ _ _ h) cal_X8_tells_ dX8_life_19 wm_6_212 wm_6_214 wm_p_82 rfl rfl (Nat.le_of_ble_eq_true rfl) ⟨(Nat.le_of_ble_eq_true rfl), (Nat.le_of_ble_eq_true rfl)⟩ ⟨(Nat.le_of_ble_eq_true rfl), (Nat.le_of_ble_eq_true rfl)⟩ (fun _ M4 => ?_)
      refine r_lconst (v := 0) hz dX8_life_22 rfl ?_
      refine r_lstore_n (lv' := [(2, .long (0 : Int64)), (0, .ref p0), (1, .int p1)]) hz dX8_life_23 (by decide) rfl ?_
      refine r_aload_n hz dX8_life_24 1 rfl ?_
      refine r_getR (j := 17) cl8 hz dX8_life_25 (by decide) wm_5_73 rfl (fun q5 => ?_)
      refine r_sipush (v := 1206) hz dX8_life_28 rfl ?_
      refine r_iald hz dX8_life_31 ?_
      refine r_iconst (v := 1) hz dX8_life_32 rfl ?_
      refine r_iadd hz dX8_life_33 ?_
      refine r_nmi (fun v6 => ?_)
      refine r_istore (lv' := [(4, .int v6), (2, .long (0 : Int64)), (0, .ref p0), (1, .int p1)]) hz dX8_life_34 (by decide) rfl ?_
      refine r_sub [2, 3, 1, 0] rfl ?_
      exact s_X8_life_36 hz hq FU p0 p1 (0 : Int64) v6 M4
    · refine r_ldc2 (v := -1) hz dX8_life_13 wm_6_224 ?_
      exact r_lret hz hq dX8_life_16 (Nat.le_of_ble_eq_true rfl) (Nat.le_of_ble_eq_true rfl)
  exact key x M' h ⟨rfl, rfl⟩
theorem dX8_half_0 : decode cX8_half 0 = .ok (.aload_n 0, 1) := by decide +kernel
theorem dX8_half_1 : decode cX8_half 1 = .ok (.iconst 0, 1) := by decide +kernel
theorem dX8_half_2 : decode cX8_half 2 = .ok (.putfield 46, 3) := by decide +kernel
theorem dX8_half_5 : decode cX8_half 5 = .ok (.aload_n 0, 1) := by decide +kernel
theorem dX8_half_6 : decode cX8_half 6 = .ok (.iload_n 1, 1) := by decide +kernel
theorem dX8_half_7 : decode cX8_half 7 = .ok (.invokevirtual 341, 3) := by decide +kernel
theorem dX8_half_10 : decode cX8_half 10 = .ok (.ifCond .ne 5, 3) := by decide +kernel
theorem dX8_half_13 : decode cX8_half 13 = .ok (.iconst (-1), 1) := by decide +kernel
theorem dX8_half_14 : decode cX8_half 14 = .ok (.ireturn, 1) := by decide +kernel
theorem dX8_half_15 : decode cX8_half 15 = .ok (.aload_n 0, 1) := by decide +kernel
theorem dX8_half_16 : decode cX8_half 16 = .ok (.iload_n 1, 1) := by decide +kernel
theorem dX8_half_17 : decode cX8_half 17 = .ok (.invokevirtual 333, 3) := by decide +kernel
theorem dX8_half_20 : decode cX8_half 20 = .ok (.iconst 0, 1) := by decide +kernel
theorem dX8_half_21 : decode cX8_half 21 = .ok (.istore_n 2, 1) := by decide +kernel
theorem dX8_half_22 : decode cX8_half 22 = .ok (.aload_n 0, 1) := by decide +kernel
theorem dX8_half_23 : decode cX8_half 23 = .ok (.getfield 20, 3) := by decide +kernel
theorem dX8_half_26 : decode cX8_half 26 = .ok (.sipush 1206, 3) := by decide +kernel
theorem dX8_half_29 : decode cX8_half 29 = .ok (.iaload, 1) := by decide +kernel
theorem dX8_half_30 : decode cX8_half 30 = .ok (.istore_n 3, 1) := by decide +kernel
theorem dX8_half_31 : decode cX8_half 31 = .ok (.iconst 2, 1) := by decide +kernel
theorem dX8_half_32 : decode cX8_half 32 = .ok (.iload_n 2, 1) := by decide +kernel
theorem dX8_half_33 : decode cX8_half 33 = .ok (.imul, 1) := by decide +kernel
theorem dX8_half_34 : decode cX8_half 34 = .ok (.aload_n 0, 1) := by decide +kernel
theorem dX8_half_35 : decode cX8_half 35 = .ok (.iload_n 1, 1) := by decide +kernel
theorem dX8_half_36 : decode cX8_half 36 = .ok (.iconst 0, 1) := by decide +kernel
theorem dX8_half_37 : decode cX8_half 37 = .ok (.invokevirtual 232, 3) := by decide +kernel
theorem dX8_half_40 : decode cX8_half 40 = .ok (.if_icmp .ge 23, 3) := by decide +kernel
theorem dX8_half_43 : decode cX8_half 43 = .ok (.iinc 3 1, 3) := by decide +kernel
theorem dX8_half_46 : decode cX8_half 46 = .ok (.iload_n 2, 1) := by decide +kernel
theorem dX8_half_47 : decode cX8_half 47 = .ok (.aload_n 0, 1) := by decide +kernel
theorem dX8_half_48 : decode cX8_half 48 = .ok (.getfield 36, 3) := by decide +kernel
theorem dX8_half_51 : decode cX8_half 51 = .ok (.bipush 6, 2) := by decide +kernel
theorem dX8_half_53 : decode cX8_half 53 = .ok (.iload_n 3, 1) := by decide +kernel
theorem dX8_half_54 : decode cX8_half 54 = .ok (.imul, 1) := by decide +kernel
theorem dX8_half_55 : decode cX8_half 55 = .ok (.iconst 2, 1) := by decide +kernel
theorem dX8_half_56 : decode cX8_half 56 = .ok (.iadd, 1) := by decide +kernel
theorem dX8_half_57 : decode cX8_half 57 = .ok (.iaload, 1) := by decide +kernel
theorem dX8_half_58 : decode cX8_half 58 = .ok (.iadd, 1) := by decide +kernel
theorem dX8_half_59 : decode cX8_half 59 = .ok (.istore_n 2, 1) := by decide +kernel
theorem dX8_half_60 : decode cX8_half 60 = .ok (.goto (-29), 3) := by decide +kernel
theorem dX8_half_63 : decode cX8_half 63 = .ok (.iload_n 3, 1) := by decide +kernel
theorem dX8_half_64 : decode cX8_half 64 = .ok (.ireturn, 1) := by decide +kernel
abbrev rX8_half : Room := { frames := 4, cells := 0, slots := 0, locals := 100 }
theorem cal_X8_half : CalOk yX8_half cX8_half 4 (some .int) 1 := ⟨wm_7_34, wm_1_9, by decide, by decide, by decide +kernel⟩
def f_X8_half_31 : Nat → Nat → Int32 → Int32 → Int32 → Mm → Option (Int32 × Mm)
  | 0, _, _, _, _, _ => none
  | n + 1, x0, x1, x2, x3, M =>
    ck (gK M x0 = 8) (bd (f_X8_howMany x0 x1 (0 : Int32) M) fun v2 M1 =>
    (if v2 ≤ ((2 : Int32) * x2) then
      some (x3, M1)
    else
      ck (gK M1 x0 = 8) (bR (gR M1 x0 27) fun q4 => ck (gK M1 q4 = 10 ∧ inb (((6 : Int32) * (x3 + (1 : Int32))) + (2 : Int32)) (gN M1 q4)) (nm (x2 + (gI M1 q4 ((((6 : Int32) * (x3 + (1 : Int32))) + (2 : Int32))).toNatClampNeg)) fun v5 =>
      f_X8_half_31 n x0 x1 v5 (x3 + (1 : Int32)) M1))))
set_option maxRecDepth 20000 in
set_option maxHeartbeats 4000000 in
theorem s_X8_half_31 {z : Zt} {K : Int32 → Mm → Prop} (hz : Good z RX8 cX8_half 4 rX8_half (some .int)) (hq : Ret z zI K) : ∀ (n : Nat) (x0 : Nat) (x1 : Int32) (x2 : Int32) (x3 : Int32) (M : Mm), Sim z 31 [(0, .ref x0), (1, .int x1), (2, .int x2), (3, .int x3)] [] M 0 0 (f_X8_half_31 n x0 x1 x2 x3 M) K := by
  intro n
  induction n with
  | zero => exact fun _ _ _ _ _ => r_none
  | succ n ih =>
    intro x0 x1 x2 x3 M
    unfold f_X8_half_31
    refine r_iconst (v := 2) hz dX8_half_31 rfl ?_
    refine r_iload_n hz dX8_half_32 2 rfl ?_
    refine r_imul hz dX8_half_33 ?_
    refine r_aload_n hz dX8_half_34 0 rfl ?_
    refine r_iload_n hz dX8_half_35 1 rfl ?_
    refine r_iconst (v := 0) hz dX8_half_36 rfl ?_
    refine r_callVi (As := fun _ => [.int x1, .int (0 : Int32)]) cl8 hz (fun _ _ h => t_X8_howMany _ _ _ _ _ _ h) cal_X8_howMany dX8_half_37 wm_6_64 wm_6_66 wm_p_65 rfl rfl (Nat.le_of_ble_eq_true rfl) ⟨(Nat.le_of_ble_eq_true rfl), (Nat.le_of_ble_eq_true rfl)⟩ ⟨(Nat.le_of_ble_eq_true rfl), (Nat.le_of_ble_eq_true rfl)⟩ (fun v2 M1 => ?_)
    refine r_icmp_ge (tgt := 63) hz dX8_half_40 rfl ?_ ?_
    · refine r_iload_n hz dX8_half_63 3 rfl ?_
      exact r_iret hz hq dX8_half_64 (Nat.le_of_ble_eq_true rfl) (Nat.le_of_ble_eq_true rfl)
    · refine r_iinc (v := (x3 + (1 : Int32))) (lv' := [(3, .int (x3 + (1 : Int32))), (0, .ref x0), (1, .int x1), (2, .int x2)]) hz dX8_half_43 3 rfl rfl (by decide) rfl ?_
      refine r_iload_n hz dX8_half_46 3 rfl ?_
      refine r_aload_n hz dX8_half_47 1 rfl ?_
      refine r_getR (j := 27) cl8 hz dX8_half_48 (by decide) wm_5_83 rfl (fun q4 => ?_)
      refine r_bipush (v := 6) hz dX8_half_51 rfl ?_
      refine r_iload_n hz dX8_half_53 0 rfl ?_
      refine r_imul hz dX8_half_54 ?_
      refine r_iconst (v := 2) hz dX8_half_55 rfl ?_
      refine r_iadd hz dX8_half_56 ?_
      refine r_iald hz dX8_half_57 ?_
      refine r_iadd hz dX8_half_58 ?_
      refine r_nmi (fun v5 => ?_)
      refine r_istore_n (lv' := [(2, .int v5), (3, .int (x3 + (1 : Int32))), (0, .ref x0), (1, .int x1)]) hz dX8_half_59 (by decide) rfl ?_
      refine r_goto (tgt := 31) hz dX8_half_60 rfl ?_
      refine r_sub [2, 3, 0, 1] rfl ?_
      exact ih x0 x1 v5 (x3 + (1 : Int32)) M1
def f_X8_half (p0 : Nat) (p1 : Int32) (M : Mm) : Option (Int32 × Mm) :=
  ck (gK M p0 = 8) (nm (sI M p0 0 (0 : Int32)) fun M1 =>
  ck (gK M1 p0 = 8) (bd (f_X8_hasAny p0 p1 M1) fun v3 M2 =>
  (if ¬ v3 = 0 then
    ck (gK M2 p0 = 8) (bd (f_X8_tells_ p0 p1 M2) fun _ M4 =>
    ck (gK M4 p0 = 8) (bR (gR M4 p0 17) fun q5 => ck (gK M4 q5 = 10 ∧ inb (1206 : Int32) (gN M4 q5)) (nm (gI M4 q5 ((1206 : Int32)).toNatClampNeg) fun v6 =>
    f_X8_half_31 FU p0 p1 (0 : Int32) v6 M4)))
  else
    some ((-1 : Int32), M2))))
set_option maxRecDepth 20000 in
set_option maxHeartbeats 4000000 in
theorem t_X8_half (p0 : Nat) (p1 : Int32) (M : Mm) (x : Int32) (M' : Mm) (h : f_X8_half p0 p1 M = some (x, M')) : Ctr yX8_half cX8_half 4 (some .int) rX8_half (fun _ => [.ref p0, .int p1]) M (zI x) M' := by
  refine ctr_of (plainFor_of_name (by decide)) (fun _ => Nat.le_of_ble_eq_true rfl) (fun z hz hin hq => ?_)
  have key : Sim z 0 [(0, .ref p0), (1, .int p1)] [] M 0 0 (f_X8_half p0 p1 M) (fun a b => a = x ∧ b = M') := by
    have hq : Ret z zI (fun a b => a = x ∧ b = M') := fun a b e => by rw [e.1, e.2]; exact hq
    unfold f_X8_half
    refine r_aload_n hz dX8_half_0 0 rfl ?_
    refine r_iconst (v := 0) hz dX8_half_1 rfl ?_
    refine r_putI (j := 0) cl8 hz dX8_half_2 (by decide) wm_5_56 (Or.inl rfl) rfl rfl rfl ?_
    refine r_nmM (fun M1 => ?_)
    refine r_aload_n hz dX8_half_5 0 rfl ?_
    refine r_iload_n hz dX8_half_6 1 rfl ?_
    refine r_callVi (As := fun _ => [.int p1]) cl8 hz (fun _ _ h => t_X8_hasAny _ _ _ _ _ h) cal_X8_hasAny dX8_half_7 wm_6_237 wm_6_239 wm_p_85 rfl rfl (Nat.le_of_ble_eq_true rfl) ⟨(Nat.le_of_ble_eq_true rfl), (Nat.le_of_ble_eq_true rfl)⟩ ⟨(Nat.le_of_ble_eq_true rfl), (Nat.le_of_ble_eq_true rfl)⟩ (fun v3 M2 => ?_)
    refine r_if_ne (tgt := 15) hz dX8_half_10 rfl ?_ ?_
    · refine r_aload_n hz dX8_half_15 0 rfl ?_
      refine r_iload_n hz dX8_half_16 1 rfl ?_
      refine r_callVv (As := fun _ => [.int p1]) cl8 hz (fun _ _ h => t_X8_tells_ _ _ _ _ _ h) cal_X8_tells_ dX8_half_17 wm_6_212 wm_6_214 wm_p_82 rfl rfl (Nat.le_of_ble_eq_true rfl) ⟨(Nat.le_of_ble_eq_true rfl), (Nat.le_of_ble_eq_true rfl)⟩ ⟨(Nat.le_of_ble_eq_true rfl), (Nat.le_of_ble_eq_true rfl)⟩ (fun _ M4 => ?_)
      refine r_iconst (v := 0) hz dX8_half_20 rfl ?_
      refine r_istore_n (lv' := [(2, .int (0 : Int32)), (0, .ref p0), (1, .int p1)]) hz dX8_half_21 (by decide) rfl ?_
      refine r_aload_n hz dX8_half_22 1 rfl ?_
      refine r_getR (j := 17) cl8 hz dX8_half_23 (by decide) wm_5_73 rfl (fun q5 => ?_)
      refine r_sipush (v := 1206) hz dX8_half_26 rfl ?_
      refine r_iald hz dX8_half_29 ?_
      refine r_nmi (fun v6 => ?_)
      refine r_istore_n (lv' := [(3, .int v6), (2, .int (0 : Int32)), (0, .ref p0), (1, .int p1)]) hz dX8_half_30 (by decide) rfl ?_
      refine r_sub [2, 3, 1, 0] rfl ?_
      exact s_X8_half_31 hz hq FU p0 p1 (0 : Int32) v6 M4
    · refine r_iconst (v := -1) hz dX8_half_13 rfl ?_
      exact r_iret hz hq dX8_half_14 (Nat.le_of_ble_eq_true rfl) (Nat.le_of_ble_eq_true rfl)
  exact key x M' h ⟨rfl, rfl⟩
theorem dX8_yields_0 : decode cX8_yields 0 = .ok (.aload_n 0, 1) := by decide +kernel
theorem dX8_yields_1 : decode cX8_yields 1 = .ok (.iconst 0, 1) := by decide +kernel
theorem dX8_yields_2 : decode cX8_yields 2 = .ok (.putfield 46, 3) := by decide +kernel
theorem dX8_yields_5 : decode cX8_yields 5 = .ok (.aload_n 0, 1) := by decide +kernel
theorem dX8_yields_6 : decode cX8_yields 6 = .ok (.iload_n 1, 1) := by decide +kernel
theorem dX8_yields_7 : decode cX8_yields 7 = .ok (.invokevirtual 341, 3) := by decide +kernel
theorem dX8_yields_10 : decode cX8_yields 10 = .ok (.ifCond .eq 15, 3) := by decide +kernel
theorem dX8_yields_13 : decode cX8_yields 13 = .ok (.iload_n 2, 1) := by decide +kernel
theorem dX8_yields_14 : decode cX8_yields 14 = .ok (.i2l, 1) := by decide +kernel
theorem dX8_yields_15 : decode cX8_yields 15 = .ok (.lconst 1, 1) := by decide +kernel
theorem dX8_yields_16 : decode cX8_yields 16 = .ok (.ldc2_w 315, 3) := by decide +kernel
theorem dX8_yields_19 : decode cX8_yields 19 = .ok (.invokestatic 83, 3) := by decide +kernel
theorem dX8_yields_22 : decode cX8_yields 22 = .ok (.ifCond .ne 5, 3) := by decide +kernel
theorem dX8_yields_25 : decode cX8_yields 25 = .ok (.iconst (-1), 1) := by decide +kernel
theorem dX8_yields_26 : decode cX8_yields 26 = .ok (.ireturn, 1) := by decide +kernel
theorem dX8_yields_27 : decode cX8_yields 27 = .ok (.aload_n 0, 1) := by decide +kernel
theorem dX8_yields_28 : decode cX8_yields 28 = .ok (.iload_n 1, 1) := by decide +kernel
theorem dX8_yields_29 : decode cX8_yields 29 = .ok (.invokevirtual 333, 3) := by decide +kernel
theorem dX8_yields_32 : decode cX8_yields 32 = .ok (.bipush 99, 2) := by decide +kernel
theorem dX8_yields_34 : decode cX8_yields 34 = .ok (.istore_n 3, 1) := by decide +kernel
theorem dX8_yields_35 : decode cX8_yields 35 = .ok (.iload_n 3, 1) := by decide +kernel
theorem dX8_yields_36 : decode cX8_yields 36 = .ok (.ifCond .lt 35, 3) := by decide +kernel
theorem dX8_yields_39 : decode cX8_yields 39 = .ok (.aload_n 0, 1) := by decide +kernel
theorem dX8_yields_40 : decode cX8_yields 40 = .ok (.iload_n 1, 1) := by decide +kernel
theorem dX8_yields_41 : decode cX8_yields 41 = .ok (.iload_n 3, 1) := by decide +kernel
theorem dX8_yields_42 : decode cX8_yields 42 = .ok (.invokevirtual 372, 3) := by decide +kernel
theorem dX8_yields_45 : decode cX8_yields 45 = .ok (.ifCond .eq 20, 3) := by decide +kernel
theorem dX8_yields_48 : decode cX8_yields 48 = .ok (.aload_n 0, 1) := by decide +kernel
theorem dX8_yields_49 : decode cX8_yields 49 = .ok (.getfield 367, 3) := by decide +kernel
theorem dX8_yields_52 : decode cX8_yields 52 = .ok (.aload_n 0, 1) := by decide +kernel
theorem dX8_yields_53 : decode cX8_yields 53 = .ok (.getfield 364, 3) := by decide +kernel
theorem dX8_yields_56 : decode cX8_yields 56 = .ok (.ldiv, 1) := by decide +kernel
theorem dX8_yields_57 : decode cX8_yields 57 = .ok (.iload_n 2, 1) := by decide +kernel
theorem dX8_yields_58 : decode cX8_yields 58 = .ok (.i2l, 1) := by decide +kernel
theorem dX8_yields_59 : decode cX8_yields 59 = .ok (.lcmp, 1) := by decide +kernel
theorem dX8_yields_60 : decode cX8_yields 60 = .ok (.ifCond .lt 5, 3) := by decide +kernel
theorem dX8_yields_63 : decode cX8_yields 63 = .ok (.iload_n 3, 1) := by decide +kernel
theorem dX8_yields_64 : decode cX8_yields 64 = .ok (.ireturn, 1) := by decide +kernel
theorem dX8_yields_65 : decode cX8_yields 65 = .ok (.iinc 3 (-1), 3) := by decide +kernel
theorem dX8_yields_68 : decode cX8_yields 68 = .ok (.goto (-33), 3) := by decide +kernel
theorem dX8_yields_71 : decode cX8_yields 71 = .ok (.bipush (-2), 2) := by decide +kernel
theorem dX8_yields_73 : decode cX8_yields 73 = .ok (.ireturn, 1) := by decide +kernel
abbrev rX8_yields : Room := { frames := 4, cells := 0, slots := 0, locals := 100 }
theorem cal_X8_yields : CalOk yX8_yields cX8_yields 4 (some .int) 2 := ⟨wm_7_38, wm_1_9, by decide, by decide, by decide +kernel⟩
def f_X8_yields_35 : Nat → Nat → Int32 → Int32 → Int32 → Mm → Option (Int32 × Mm)
  | 0, _, _, _, _, _ => none
  | n + 1, x0, x1, x2, x3, M =>
    (if x3 < 0 then
      some ((-2 : Int32), M)
    else
      ck (gK M x0 = 8) (bd (f_X8_isTold x0 x1 x3 M) fun v2 M1 =>
      (if v2 = 0 then
        f_X8_yields_35 n x0 x1 x2 (x3 + (-1 : Int32)) M1
      else
        ck (gK M1 x0 = 8) (ck (gK M1 x0 = 8) (ck (¬ (gL M1 x0 30) = 0) ((if ((gL M1 x0 29) / (gL M1 x0 30)) < (x2).toInt64 then
          f_X8_yields_35 n x0 x1 x2 (x3 + (-1 : Int32)) M1
        else
          some (x3, M1))))))))
set_option maxRecDepth 20000 in
set_option maxHeartbeats 4000000 in
theorem s_X8_yields_35 {z : Zt} {K : Int32 → Mm → Prop} (hz : Good z RX8 cX8_yields 4 rX8_yields (some .int)) (hq : Ret z zI K) : ∀ (n : Nat) (x0 : Nat) (x1 : Int32) (x2 : Int32) (x3 : Int32) (M : Mm), Sim z 35 [(0, .ref x0), (1, .int x1), (2, .int x2), (3, .int x3)] [] M 0 0 (f_X8_yields_35 n x0 x1 x2 x3 M) K := by
  intro n
  induction n with
  | zero => exact fun _ _ _ _ _ => r_none
  | succ n ih =>
    intro x0 x1 x2 x3 M
    unfold f_X8_yields_35
    refine r_iload_n hz dX8_yields_35 3 rfl ?_
    refine r_if_lt (tgt := 71) hz dX8_yields_36 rfl ?_ ?_
    · refine r_bipush (v := -2) hz dX8_yields_71 rfl ?_
      exact r_iret hz hq dX8_yields_73 (Nat.le_of_ble_eq_true rfl) (Nat.le_of_ble_eq_true rfl)
    · refine r_aload_n hz dX8_yields_39 0 rfl ?_
      refine r_iload_n hz dX8_yields_40 1 rfl ?_
      refine r_iload_n hz dX8_yields_41 3 rfl ?_
      refine r_callVi (As := fun _ => [.int x1, .int x3]) cl8 hz (fun _ _ h => t_X8_isTold _ _ _ _ _ _ h) cal_X8_isTold dX8_yields_42 wm_7_10 wm_7_12 wm_p_87 rfl rfl (Nat.le_of_ble_eq_true rfl) ⟨(Nat.le_of_ble_eq_true rfl), (Nat.le_of_ble_eq_true rfl)⟩ ⟨(Nat.le_of_ble_eq_true rfl), (Nat.le_of_ble_eq_true rfl)⟩ (fun v2 M1 => ?_)
      refine r_if_eq (tgt := 65) hz dX8_yields_45 rfl ?_ ?_
      · refine r_iinc (v := (x3 + (-1 : Int32))) (lv' := [(3, .int (x3 + (-1 : Int32))), (0, .ref x0), (1, .int x1), (2, .int x2)]) hz dX8_yields_65 3 rfl rfl (by decide) rfl ?_
        refine r_goto (tgt := 35) hz dX8_yields_68 rfl ?_
        refine r_sub [1, 2, 3, 0] rfl ?_
        exact ih x0 x1 x2 (x3 + (-1 : Int32)) M1
      · refine r_aload_n hz dX8_yields_48 0 rfl ?_
        refine r_getL (j := 29) cl8 hz dX8_yields_49 (by decide) wm_5_85 rfl ?_
        refine r_aload_n hz dX8_yields_52 0 rfl ?_
        refine r_getL (j := 30) cl8 hz dX8_yields_53 (by decide) wm_5_86 rfl ?_
        refine r_ldiv hz dX8_yields_56 ?_
        refine r_iload_n hz dX8_yields_57 2 rfl ?_
        refine r_i2l hz dX8_yields_58 ?_
        refine r_lcmp_lt (tgt := 65) hz dX8_yields_59 dX8_yields_60 rfl ?_ ?_
        · refine r_iinc (v := (x3 + (-1 : Int32))) (lv' := [(3, .int (x3 + (-1 : Int32))), (0, .ref x0), (1, .int x1), (2, .int x2)]) hz dX8_yields_65 3 rfl rfl (by decide) rfl ?_
          refine r_goto (tgt := 35) hz dX8_yields_68 rfl ?_
          refine r_sub [1, 2, 3, 0] rfl ?_
          exact ih x0 x1 x2 (x3 + (-1 : Int32)) M1
        · refine r_iload_n hz dX8_yields_63 3 rfl ?_
          exact r_iret hz hq dX8_yields_64 (Nat.le_of_ble_eq_true rfl) (Nat.le_of_ble_eq_true rfl)
def f_X8_yields (p0 : Nat) (p1 : Int32) (p2 : Int32) (M : Mm) : Option (Int32 × Mm) :=
  ck (gK M p0 = 8) (nm (sI M p0 0 (0 : Int32)) fun M1 =>
  ck (gK M1 p0 = 8) (bd (f_X8_hasAny p0 p1 M1) fun v3 M2 =>
  (if v3 = 0 then
    some ((-1 : Int32), M2)
  else
    bd (f_X8_within (p2).toInt64 (1 : Int64) (99999 : Int64) M2) fun v5 M4 =>
    (if ¬ v5 = 0 then
      ck (gK M4 p0 = 8) (bd (f_X8_tells_ p0 p1 M4) fun _ M6 =>
      f_X8_yields_35 FU p0 p1 p2 (99 : Int32) M6)
    else
      some ((-1 : Int32), M4)))))
set_option maxRecDepth 20000 in
set_option maxHeartbeats 4000000 in
theorem t_X8_yields (p0 : Nat) (p1 : Int32) (p2 : Int32) (M : Mm) (x : Int32) (M' : Mm) (h : f_X8_yields p0 p1 p2 M = some (x, M')) : Ctr yX8_yields cX8_yields 4 (some .int) rX8_yields (fun _ => [.ref p0, .int p1, .int p2]) M (zI x) M' := by
  refine ctr_of (plainFor_of_name (by decide)) (fun _ => Nat.le_of_ble_eq_true rfl) (fun z hz hin hq => ?_)
  have key : Sim z 0 [(0, .ref p0), (1, .int p1), (2, .int p2)] [] M 0 0 (f_X8_yields p0 p1 p2 M) (fun a b => a = x ∧ b = M') := by
    have hq : Ret z zI (fun a b => a = x ∧ b = M') := fun a b e => by rw [e.1, e.2]; exact hq
    unfold f_X8_yields
    refine r_aload_n hz dX8_yields_0 0 rfl ?_
    refine r_iconst (v := 0) hz dX8_yields_1 rfl ?_
    refine r_putI (j := 0) cl8 hz dX8_yields_2 (by decide) wm_5_56 (Or.inl rfl) rfl rfl rfl ?_
    refine r_nmM (fun M1 => ?_)
    refine r_aload_n hz dX8_yields_5 0 rfl ?_
    refine r_iload_n hz dX8_yields_6 1 rfl ?_
    refine r_callVi (As := fun _ => [.int p1]) cl8 hz (fun _ _ h => t_X8_hasAny _ _ _ _ _ h) cal_X8_hasAny dX8_yields_7 wm_6_237 wm_6_239 wm_p_85 rfl rfl (Nat.le_of_ble_eq_true rfl) ⟨(Nat.le_of_ble_eq_true rfl), (Nat.le_of_ble_eq_true rfl)⟩ ⟨(Nat.le_of_ble_eq_true rfl), (Nat.le_of_ble_eq_true rfl)⟩ (fun v3 M2 => ?_)
    refine r_if_eq (tgt := 25) hz dX8_yields_10 rfl ?_ ?_
    · refine r_iconst (v := -1) hz dX8_yields_25 rfl ?_
      exact r_iret hz hq dX8_yields_26 (Nat.le_of_ble_eq_true rfl) (Nat.le_of_ble_eq_true rfl)
    · refine r_iload_n hz dX8_yields_13 2 rfl ?_
      refine r_i2l hz dX8_yields_14 ?_
      refine r_lconst (v := 1) hz dX8_yields_15 rfl ?_
      refine r_ldc2 (v := 99999) hz dX8_yields_16 wm_6_177 ?_
      refine r_callSi (As := fun _ => [.long (p2).toInt64, .long (1 : Int64), .long (99999 : Int64)]) hz (fun _ _ h => t_X8_within _ _ _ _ _ _ h) cal_X8_within dX8_yields_19 wm_5_175 wm_5_176 rfl rfl (Nat.le_of_ble_eq_true rfl) ⟨(Nat.le_of_ble_eq_true rfl), (Nat.le_of_ble_eq_true rfl)⟩ ⟨(Nat.le_of_ble_eq_true rfl), (Nat.le_of_ble_eq_true rfl)⟩ (fun v5 M4 => ?_)
      refine r_if_ne (tgt := 27) hz dX8_yields_22 rfl ?_ ?_
      · refine r_aload_n hz dX8_yields_27 0 rfl ?_
        refine r_iload_n hz dX8_yields_28 1 rfl ?_
        refine r_callVv (As := fun _ => [.int p1]) cl8 hz (fun _ _ h => t_X8_tells_ _ _ _ _ _ h) cal_X8_tells_ dX8_yields_29 wm_6_212 wm_6_214 wm_p_82 rfl rfl (Nat.le_of_ble_eq_true rfl) ⟨(Nat.le_of_ble_eq_true rfl), (Nat.le_of_ble_eq_true rfl)⟩ ⟨(Nat.le_of_ble_eq_true rfl), (Nat.le_of_ble_eq_true rfl)⟩ (fun _ M6 => ?_)
        refine r_bipush (v := 99) hz dX8_yields_32 rfl ?_
        refine r_istore_n (lv' := [(3, .int (99 : Int32)), (0, .ref p0), (1, .int p1), (2, .int p2)]) hz dX8_yields_34 (by decide) rfl ?_
        refine r_sub [1, 2, 3, 0] rfl ?_
        exact s_X8_yields_35 hz hq FU p0 p1 p2 (99 : Int32) M6
      · refine r_iconst (v := -1) hz dX8_yields_25 rfl ?_
        exact r_iret hz hq dX8_yields_26 (Nat.le_of_ble_eq_true rfl) (Nat.le_of_ble_eq_true rfl)
  exact key x M' h ⟨rfl, rfl⟩
theorem dX8_choose_0 : decode cX8_choose 0 = .ok (.iload_n 1, 1) := by decide +kernel
theorem dX8_choose_1 : decode cX8_choose 1 = .ok (.i2l, 1) := by decide +kernel
theorem dX8_choose_2 : decode cX8_choose 2 = .ok (.lconst 0, 1) := by decide +kernel
theorem dX8_choose_3 : decode cX8_choose 3 = .ok (.iload_n 0, 1) := by decide +kernel
theorem dX8_choose_4 : decode cX8_choose 4 = .ok (.i2l, 1) := by decide +kernel
theorem dX8_choose_5 : decode cX8_choose 5 = .ok (.invokestatic 83, 3) := by decide +kernel
theorem dX8_choose_8 : decode cX8_choose 8 = .ok (.ifCond .ne 5, 3) := by decide +kernel
theorem dX8_choose_11 : decode cX8_choose 11 = .ok (.lconst 0, 1) := by decide +kernel
theorem dX8_choose_12 : decode cX8_choose 12 = .ok (.lreturn, 1) := by decide +kernel
theorem dX8_choose_13 : decode cX8_choose 13 = .ok (.lconst 1, 1) := by decide +kernel
theorem dX8_choose_14 : decode cX8_choose 14 = .ok (.lstore_n 2, 1) := by decide +kernel
theorem dX8_choose_15 : decode cX8_choose 15 = .ok (.iconst 1, 1) := by decide +kernel
theorem dX8_choose_16 : decode cX8_choose 16 = .ok (.istore 4, 2) := by decide +kernel
theorem dX8_choose_18 : decode cX8_choose 18 = .ok (.iload 4, 2) := by decide +kernel
theorem dX8_choose_20 : decode cX8_choose 20 = .ok (.iload_n 1, 1) := by decide +kernel
theorem dX8_choose_21 : decode cX8_choose 21 = .ok (.if_icmp .gt 42, 3) := by decide +kernel
theorem dX8_choose_24 : decode cX8_choose 24 = .ok (.iload_n 0, 1) := by decide +kernel
theorem dX8_choose_25 : decode cX8_choose 25 = .ok (.iload_n 1, 1) := by decide +kernel
theorem dX8_choose_26 : decode cX8_choose 26 = .ok (.isub, 1) := by decide +kernel
theorem dX8_choose_27 : decode cX8_choose 27 = .ok (.iload 4, 2) := by decide +kernel
theorem dX8_choose_29 : decode cX8_choose 29 = .ok (.iadd, 1) := by decide +kernel
theorem dX8_choose_30 : decode cX8_choose 30 = .ok (.i2l, 1) := by decide +kernel
theorem dX8_choose_31 : decode cX8_choose 31 = .ok (.lstore 5, 2) := by decide +kernel
theorem dX8_choose_33 : decode cX8_choose 33 = .ok (.lload_n 2, 1) := by decide +kernel
theorem dX8_choose_34 : decode cX8_choose 34 = .ok (.iload 4, 2) := by decide +kernel
theorem dX8_choose_36 : decode cX8_choose 36 = .ok (.i2l, 1) := by decide +kernel
theorem dX8_choose_37 : decode cX8_choose 37 = .ok (.invokestatic 357, 3) := by decide +kernel
theorem dX8_choose_40 : decode cX8_choose 40 = .ok (.lstore 7, 2) := by decide +kernel
theorem dX8_choose_42 : decode cX8_choose 42 = .ok (.lload_n 2, 1) := by decide +kernel
theorem dX8_choose_43 : decode cX8_choose 43 = .ok (.lload 7, 2) := by decide +kernel
theorem dX8_choose_45 : decode cX8_choose 45 = .ok (.ldiv, 1) := by decide +kernel
theorem dX8_choose_46 : decode cX8_choose 46 = .ok (.lload 5, 2) := by decide +kernel
theorem dX8_choose_48 : decode cX8_choose 48 = .ok (.iload 4, 2) := by decide +kernel
theorem dX8_choose_50 : decode cX8_choose 50 = .ok (.i2l, 1) := by decide +kernel
theorem dX8_choose_51 : decode cX8_choose 51 = .ok (.lload 7, 2) := by decide +kernel
theorem dX8_choose_53 : decode cX8_choose 53 = .ok (.ldiv, 1) := by decide +kernel
theorem dX8_choose_54 : decode cX8_choose 54 = .ok (.ldiv, 1) := by decide +kernel
theorem dX8_choose_55 : decode cX8_choose 55 = .ok (.lmul, 1) := by decide +kernel
theorem dX8_choose_56 : decode cX8_choose 56 = .ok (.lstore_n 2, 1) := by decide +kernel
theorem dX8_choose_57 : decode cX8_choose 57 = .ok (.iinc 4 1, 3) := by decide +kernel
theorem dX8_choose_60 : decode cX8_choose 60 = .ok (.goto (-42), 3) := by decide +kernel
theorem dX8_choose_63 : decode cX8_choose 63 = .ok (.lload_n 2, 1) := by decide +kernel
theorem dX8_choose_64 : decode cX8_choose 64 = .ok (.lreturn, 1) := by decide +kernel
abbrev rX8_choose : Room := { frames := 1, cells := 0, slots := 0, locals := 29 }
theorem cal_X8_choose : CalOk yX8_choose cX8_choose 9 (some .long) 2 := ⟨wm_7_46, wm_1_9, by decide, by decide, by decide +kernel⟩
def f_X8_choose_18 : Nat → Int32 → Int32 → Int64 → Int32 → Mm → Option (Int64 × Mm)
  | 0, _, _, _, _, _ => none
  | n + 1, x0, x1, x2, x4, M =>
    (if x1 < x4 then
      some (x2, M)
    else
      nm (((x0 - x1) + x4)).toInt64 fun v1 =>
      bd (f_X8_common x2 (x4).toInt64 M) fun v3 M2 =>
      ck (¬ v3 = 0) (ck (¬ v3 = 0) (ck (¬ ((x4).toInt64 / v3) = 0) (nm ((x2 / v3) * (v1 / ((x4).toInt64 / v3))) fun v4 =>
      f_X8_choose_18 n x0 x1 v4 (x4 + (1 : Int32)) M2))))
set_option maxRecDepth 20000 in
set_option maxHeartbeats 4000000 in
theorem s_X8_choose_18 {z : Zt} {K : Int64 → Mm → Prop} (hz : Good z RX8 cX8_choose 9 rX8_choose (some .long)) (hq : Ret z zL K) : ∀ (n : Nat) (x0 : Int32) (x1 : Int32) (x2 : Int64) (x4 : Int32) (M : Mm), Sim z 18 [(0, .int x0), (1, .int x1), (2, .long x2), (4, .int x4)] [] M 0 0 (f_X8_choose_18 n x0 x1 x2 x4 M) K := by
  intro n
  induction n with
  | zero => exact fun _ _ _ _ _ => r_none
  | succ n ih =>
    intro x0 x1 x2 x4 M
    unfold f_X8_choose_18
    refine r_iload hz dX8_choose_18 3 rfl ?_
    refine r_iload_n hz dX8_choose_20 1 rfl ?_
    refine r_icmp_gt (tgt := 63) hz dX8_choose_21 rfl ?_ ?_
    · refine r_lload_n hz dX8_choose_63 2 rfl ?_
      exact r_lret hz hq dX8_choose_64 (Nat.le_of_ble_eq_true rfl) (Nat.le_of_ble_eq_true rfl)
    · refine r_iload_n hz dX8_choose_24 0 rfl ?_
      refine r_iload_n hz dX8_choose_25 1 rfl ?_
      refine r_isub hz dX8_choose_26 ?_
      refine r_iload hz dX8_choose_27 3 rfl ?_
      refine r_iadd hz dX8_choose_29 ?_
      refine r_i2l hz dX8_choose_30 ?_
      refine r_nml (fun v1 => ?_)
      refine r_lstore (lv' := [(5, .long v1), (0, .int x0), (1, .int x1), (2, .long x2), (4, .int x4)]) hz dX8_choose_31 (by decide) rfl ?_
      refine r_lload_n hz dX8_choose_33 3 rfl ?_
      refine r_iload hz dX8_choose_34 4 rfl ?_
      refine r_i2l hz dX8_choose_36 ?_
      refine r_callSl (As := fun _ => [.long x2, .long (x4).toInt64]) hz (fun _ _ h => t_X8_common _ _ _ _ _ h) cal_X8_common dX8_choose_37 wm_7_15 wm_7_16 rfl rfl (Nat.le_of_ble_eq_true rfl) ⟨(Nat.le_of_ble_eq_true rfl), (Nat.le_of_ble_eq_true rfl)⟩ ⟨(Nat.le_of_ble_eq_true rfl), (Nat.le_of_ble_eq_true rfl)⟩ (fun v3 M2 => ?_)
      refine r_lstore (lv' := [(7, .long v3), (5, .long v1), (0, .int x0), (1, .int x1), (2, .long x2), (4, .int x4)]) hz dX8_choose_40 (by decide) rfl ?_
      refine r_lload_n hz dX8_choose_42 4 rfl ?_
      refine r_lload hz dX8_choose_43 0 rfl ?_
      refine r_ldiv hz dX8_choose_45 ?_
      refine r_lload hz dX8_choose_46 1 rfl ?_
      refine r_iload hz dX8_choose_48 5 rfl ?_
      refine r_i2l hz dX8_choose_50 ?_
      refine r_lload hz dX8_choose_51 0 rfl ?_
      refine r_ldiv hz dX8_choose_53 ?_
      refine r_ldiv hz dX8_choose_54 ?_
      refine r_lmul hz dX8_choose_55 ?_
      refine r_nml (fun v4 => ?_)
      refine r_lstore_n (lv' := [(2, .long v4), (7, .long v3), (5, .long v1), (0, .int x0), (1, .int x1), (4, .int x4)]) hz dX8_choose_56 (by decide) rfl ?_
      refine r_iinc (v := (x4 + (1 : Int32))) (lv' := [(4, .int (x4 + (1 : Int32))), (2, .long v4), (7, .long v3), (5, .long v1), (0, .int x0), (1, .int x1)]) hz dX8_choose_57 5 rfl rfl (by decide) rfl ?_
      refine r_goto (tgt := 18) hz dX8_choose_60 rfl ?_
      refine r_sub [4, 5, 1, 0] rfl ?_
      exact ih x0 x1 v4 (x4 + (1 : Int32)) M2
def f_X8_choose (p0 : Int32) (p1 : Int32) (M : Mm) : Option (Int64 × Mm) :=
  bd (f_X8_within (p1).toInt64 (0 : Int64) (p0).toInt64 M) fun v2 M1 =>
  (if ¬ v2 = 0 then
    f_X8_choose_18 FU p0 p1 (1 : Int64) (1 : Int32) M1
  else
    some ((0 : Int64), M1))
set_option maxRecDepth 20000 in
set_option maxHeartbeats 4000000 in
theorem t_X8_choose (p0 : Int32) (p1 : Int32) (M : Mm) (x : Int64) (M' : Mm) (h : f_X8_choose p0 p1 M = some (x, M')) : Ctr yX8_choose cX8_choose 9 (some .long) rX8_choose (fun _ => [.int p0, .int p1]) M (zL x) M' := by
  refine ctr_of (plainFor_of_name (by decide)) (fun _ => Nat.le_of_ble_eq_true rfl) (fun z hz hin hq => ?_)
  have key : Sim z 0 [(0, .int p0), (1, .int p1)] [] M 0 0 (f_X8_choose p0 p1 M) (fun a b => a = x ∧ b = M') := by
    have hq : Ret z zL (fun a b => a = x ∧ b = M') := fun a b e => by rw [e.1, e.2]; exact hq
    unfold f_X8_choose
    refine r_iload_n hz dX8_choose_0 1 rfl ?_
    refine r_i2l hz dX8_choose_1 ?_
    refine r_lconst (v := 0) hz dX8_choose_2 rfl ?_
    refine r_iload_n hz dX8_choose_3 0 rfl ?_
    refine r_i2l hz dX8_choose_4 ?_
    refine r_callSi (As := fun _ => [.long (p1).toInt64, .long (0 : Int64), .long (p0).toInt64]) hz (fun _ _ h => t_X8_within _ _ _ _ _ _ h) cal_X8_within dX8_choose_5 wm_5_175 wm_5_176 rfl rfl (Nat.le_of_ble_eq_true rfl) ⟨(Nat.le_of_ble_eq_true rfl), (Nat.le_of_ble_eq_true rfl)⟩ ⟨(Nat.le_of_ble_eq_true rfl), (Nat.le_of_ble_eq_true rfl)⟩ (fun v2 M1 => ?_)
    refine r_if_ne (tgt := 13) hz dX8_choose_8 rfl ?_ ?_
    · refine r_lconst (v := 1) hz dX8_choose_13 rfl ?_
      refine r_lstore_n (lv' := [(2, .long (1 : Int64)), (0, .int p0), (1, .int p1)]) hz dX8_choose_14 (by decide) rfl ?_
      refine r_iconst (v := 1) hz dX8_choose_15 rfl ?_
      refine r_istore (lv' := [(4, .int (1 : Int32)), (2, .long (1 : Int64)), (0, .int p0), (1, .int p1)]) hz dX8_choose_16 (by decide) rfl ?_
      refine r_sub [2, 3, 1, 0] rfl ?_
      exact s_X8_choose_18 hz hq FU p0 p1 (1 : Int64) (1 : Int32) M1
    · refine r_lconst (v := 0) hz dX8_choose_11 rfl ?_
      exact r_lret hz hq dX8_choose_12 (Nat.le_of_ble_eq_true rfl) (Nat.le_of_ble_eq_true rfl)
  exact key x M' h ⟨rfl, rfl⟩
theorem dX8_atLeast_0 : decode cX8_atLeast 0 = .ok (.aload_n 0, 1) := by decide +kernel
theorem dX8_atLeast_1 : decode cX8_atLeast 1 = .ok (.iconst 0, 1) := by decide +kernel
theorem dX8_atLeast_2 : decode cX8_atLeast 2 = .ok (.putfield 46, 3) := by decide +kernel
theorem dX8_atLeast_5 : decode cX8_atLeast 5 = .ok (.aload_n 0, 1) := by decide +kernel
theorem dX8_atLeast_6 : decode cX8_atLeast 6 = .ok (.iload_n 1, 1) := by decide +kernel
theorem dX8_atLeast_7 : decode cX8_atLeast 7 = .ok (.invokevirtual 244, 3) := by decide +kernel
theorem dX8_atLeast_10 : decode cX8_atLeast 10 = .ok (.ifCond .eq 40, 3) := by decide +kernel
theorem dX8_atLeast_13 : decode cX8_atLeast 13 = .ok (.aload_n 0, 1) := by decide +kernel
theorem dX8_atLeast_14 : decode cX8_atLeast 14 = .ok (.iload_n 2, 1) := by decide +kernel
theorem dX8_atLeast_15 : decode cX8_atLeast 15 = .ok (.invokevirtual 222, 3) := by decide +kernel
theorem dX8_atLeast_18 : decode cX8_atLeast 18 = .ok (.ifCond .eq 32, 3) := by decide +kernel
theorem dX8_atLeast_21 : decode cX8_atLeast 21 = .ok (.iload_n 3, 1) := by decide +kernel
theorem dX8_atLeast_22 : decode cX8_atLeast 22 = .ok (.i2l, 1) := by decide +kernel
theorem dX8_atLeast_23 : decode cX8_atLeast 23 = .ok (.lconst 0, 1) := by decide +kernel
theorem dX8_atLeast_24 : decode cX8_atLeast 24 = .ok (.ldc2_w 377, 3) := by decide +kernel
theorem dX8_atLeast_27 : decode cX8_atLeast 27 = .ok (.invokestatic 83, 3) := by decide +kernel
theorem dX8_atLeast_30 : decode cX8_atLeast 30 = .ok (.ifCond .eq 20, 3) := by decide +kernel
theorem dX8_atLeast_33 : decode cX8_atLeast 33 = .ok (.aload_n 0, 1) := by decide +kernel
theorem dX8_atLeast_34 : decode cX8_atLeast 34 = .ok (.getfield 20, 3) := by decide +kernel
theorem dX8_atLeast_37 : decode cX8_atLeast 37 = .ok (.sipush 1206, 3) := by decide +kernel
theorem dX8_atLeast_40 : decode cX8_atLeast 40 = .ok (.iaload, 1) := by decide +kernel
theorem dX8_atLeast_41 : decode cX8_atLeast 41 = .ok (.aload_n 0, 1) := by decide +kernel
theorem dX8_atLeast_42 : decode cX8_atLeast 42 = .ok (.iload_n 2, 1) := by decide +kernel
theorem dX8_atLeast_43 : decode cX8_atLeast 43 = .ok (.iconst 3, 1) := by decide +kernel
theorem dX8_atLeast_44 : decode cX8_atLeast 44 = .ok (.invokevirtual 225, 3) := by decide +kernel
theorem dX8_atLeast_47 : decode cX8_atLeast 47 = .ok (.if_icmp .lt 7, 3) := by decide +kernel
theorem dX8_atLeast_50 : decode cX8_atLeast 50 = .ok (.ldc2_w 335, 3) := by decide +kernel
theorem dX8_atLeast_53 : decode cX8_atLeast 53 = .ok (.lreturn, 1) := by decide +kernel
theorem dX8_atLeast_54 : decode cX8_atLeast 54 = .ok (.aload_n 0, 1) := by decide +kernel
theorem dX8_atLeast_55 : decode cX8_atLeast 55 = .ok (.iload_n 2, 1) := by decide +kernel
theorem dX8_atLeast_56 : decode cX8_atLeast 56 = .ok (.invokevirtual 333, 3) := by decide +kernel
theorem dX8_atLeast_59 : decode cX8_atLeast 59 = .ok (.aload_n 0, 1) := by decide +kernel
theorem dX8_atLeast_60 : decode cX8_atLeast 60 = .ok (.iload_n 2, 1) := by decide +kernel
theorem dX8_atLeast_61 : decode cX8_atLeast 61 = .ok (.iconst 0, 1) := by decide +kernel
theorem dX8_atLeast_62 : decode cX8_atLeast 62 = .ok (.invokevirtual 232, 3) := by decide +kernel
theorem dX8_atLeast_65 : decode cX8_atLeast 65 = .ok (.istore 4, 2) := by decide +kernel
theorem dX8_atLeast_67 : decode cX8_atLeast 67 = .ok (.aload_n 0, 1) := by decide +kernel
theorem dX8_atLeast_68 : decode cX8_atLeast 68 = .ok (.iload_n 1, 1) := by decide +kernel
theorem dX8_atLeast_69 : decode cX8_atLeast 69 = .ok (.iload_n 2, 1) := by decide +kernel
theorem dX8_atLeast_70 : decode cX8_atLeast 70 = .ok (.iconst 0, 1) := by decide +kernel
theorem dX8_atLeast_71 : decode cX8_atLeast 71 = .ok (.invokevirtual 311, 3) := by decide +kernel
theorem dX8_atLeast_74 : decode cX8_atLeast 74 = .ok (.istore 5, 2) := by decide +kernel
theorem dX8_atLeast_76 : decode cX8_atLeast 76 = .ok (.aload_n 0, 1) := by decide +kernel
theorem dX8_atLeast_77 : decode cX8_atLeast 77 = .ok (.getfield 36, 3) := by decide +kernel
theorem dX8_atLeast_80 : decode cX8_atLeast 80 = .ok (.bipush 6, 2) := by decide +kernel
theorem dX8_atLeast_82 : decode cX8_atLeast 82 = .ok (.aload_n 0, 1) := by decide +kernel
theorem dX8_atLeast_83 : decode cX8_atLeast 83 = .ok (.getfield 20, 3) := by decide +kernel
theorem dX8_atLeast_86 : decode cX8_atLeast 86 = .ok (.sipush 1206, 3) := by decide +kernel
theorem dX8_atLeast_89 : decode cX8_atLeast 89 = .ok (.iaload, 1) := by decide +kernel
theorem dX8_atLeast_90 : decode cX8_atLeast 90 = .ok (.iconst 1, 1) := by decide +kernel
theorem dX8_atLeast_91 : decode cX8_atLeast 91 = .ok (.iadd, 1) := by decide +kernel
theorem dX8_atLeast_92 : decode cX8_atLeast 92 = .ok (.imul, 1) := by decide +kernel
theorem dX8_atLeast_93 : decode cX8_atLeast 93 = .ok (.iconst 2, 1) := by decide +kernel
theorem dX8_atLeast_94 : decode cX8_atLeast 94 = .ok (.iadd, 1) := by decide +kernel
theorem dX8_atLeast_95 : decode cX8_atLeast 95 = .ok (.iaload, 1) := by decide +kernel
theorem dX8_atLeast_96 : decode cX8_atLeast 96 = .ok (.istore 6, 2) := by decide +kernel
theorem dX8_atLeast_98 : decode cX8_atLeast 98 = .ok (.lconst 0, 1) := by decide +kernel
theorem dX8_atLeast_99 : decode cX8_atLeast 99 = .ok (.lstore 7, 2) := by decide +kernel
theorem dX8_atLeast_101 : decode cX8_atLeast 101 = .ok (.iload_n 3, 1) := by decide +kernel
theorem dX8_atLeast_102 : decode cX8_atLeast 102 = .ok (.istore 9, 2) := by decide +kernel
theorem dX8_atLeast_104 : decode cX8_atLeast 104 = .ok (.iload 9, 2) := by decide +kernel
theorem dX8_atLeast_106 : decode cX8_atLeast 106 = .ok (.iload 5, 2) := by decide +kernel
theorem dX8_atLeast_108 : decode cX8_atLeast 108 = .ok (.if_icmp .gt 35, 3) := by decide +kernel
theorem dX8_atLeast_111 : decode cX8_atLeast 111 = .ok (.lload 7, 2) := by decide +kernel
theorem dX8_atLeast_113 : decode cX8_atLeast 113 = .ok (.iload 5, 2) := by decide +kernel
theorem dX8_atLeast_115 : decode cX8_atLeast 115 = .ok (.iload 9, 2) := by decide +kernel
theorem dX8_atLeast_117 : decode cX8_atLeast 117 = .ok (.invokestatic 379, 3) := by decide +kernel
theorem dX8_atLeast_120 : decode cX8_atLeast 120 = .ok (.iload 4, 2) := by decide +kernel
theorem dX8_atLeast_122 : decode cX8_atLeast 122 = .ok (.iload 5, 2) := by decide +kernel
theorem dX8_atLeast_124 : decode cX8_atLeast 124 = .ok (.isub, 1) := by decide +kernel
theorem dX8_atLeast_125 : decode cX8_atLeast 125 = .ok (.iload 6, 2) := by decide +kernel
theorem dX8_atLeast_127 : decode cX8_atLeast 127 = .ok (.iload 9, 2) := by decide +kernel
theorem dX8_atLeast_129 : decode cX8_atLeast 129 = .ok (.isub, 1) := by decide +kernel
theorem dX8_atLeast_130 : decode cX8_atLeast 130 = .ok (.invokestatic 379, 3) := by decide +kernel
theorem dX8_atLeast_133 : decode cX8_atLeast 133 = .ok (.lmul, 1) := by decide +kernel
theorem dX8_atLeast_134 : decode cX8_atLeast 134 = .ok (.ladd, 1) := by decide +kernel
theorem dX8_atLeast_135 : decode cX8_atLeast 135 = .ok (.lstore 7, 2) := by decide +kernel
theorem dX8_atLeast_137 : decode cX8_atLeast 137 = .ok (.iinc 9 1, 3) := by decide +kernel
theorem dX8_atLeast_140 : decode cX8_atLeast 140 = .ok (.goto (-36), 3) := by decide +kernel
theorem dX8_atLeast_143 : decode cX8_atLeast 143 = .ok (.aload_n 0, 1) := by decide +kernel
theorem dX8_atLeast_144 : decode cX8_atLeast 144 = .ok (.lload 7, 2) := by decide +kernel
theorem dX8_atLeast_146 : decode cX8_atLeast 146 = .ok (.iload 4, 2) := by decide +kernel
theorem dX8_atLeast_148 : decode cX8_atLeast 148 = .ok (.iload 6, 2) := by decide +kernel
theorem dX8_atLeast_150 : decode cX8_atLeast 150 = .ok (.invokestatic 379, 3) := by decide +kernel
theorem dX8_atLeast_153 : decode cX8_atLeast 153 = .ok (.invokevirtual 344, 3) := by decide +kernel
theorem dX8_atLeast_156 : decode cX8_atLeast 156 = .ok (.lreturn, 1) := by decide +kernel
abbrev rX8_atLeast : Room := { frames := 4, cells := 0, slots := 0, locals := 100 }
theorem cal_X8_atLeast : CalOk yX8_atLeast cX8_atLeast 10 (some .long) 3 := ⟨wm_7_42, wm_1_9, by decide, by decide, by decide +kernel⟩
def f_X8_atLeast_104 : Nat → Nat → Int32 → Int32 → Int32 → Int64 → Int32 → Mm → Option (Int64 × Mm)
  | 0, _, _, _, _, _, _, _ => none
  | n + 1, x0, x4, x5, x6, x7, x9, M =>
    (if x5 < x9 then
      bd (f_X8_choose x4 x6 M) fun v2 M1 =>
      ck (gK M1 x0 = 8) (bd (f_X8_least x0 x7 v2 M1) fun v4 M3 =>
      some (v4, M3))
    else
      bd (f_X8_choose x5 x9 M) fun v6 M5 =>
      bd (f_X8_choose (x4 - x5) (x6 - x9) M5) fun v8 M7 =>
      nm (x7 + (v6 * v8)) fun v9 =>
      f_X8_atLeast_104 n x0 x4 x5 x6 v9 (x9 + (1 : Int32)) M7)
set_option maxRecDepth 20000 in
set_option maxHeartbeats 4000000 in
theorem s_X8_atLeast_104 {z : Zt} {K : Int64 → Mm → Prop} (hz : Good z RX8 cX8_atLeast 10 rX8_atLeast (some .long)) (hq : Ret z zL K) : ∀ (n : Nat) (x0 : Nat) (x4 : Int32) (x5 : Int32) (x6 : Int32) (x7 : Int64) (x9 : Int32) (M : Mm), Sim z 104 [(0, .ref x0), (4, .int x4), (5, .int x5), (6, .int x6), (7, .long x7), (9, .int x9)] [] M 0 0 (f_X8_atLeast_104 n x0 x4 x5 x6 x7 x9 M) K := by
  intro n
  induction n with
  | zero => exact fun _ _ _ _ _ _ _ => r_none
  | succ n ih =>
    intro x0 x4 x5 x6 x7 x9 M
    unfold f_X8_atLeast_104
    refine r_iload hz dX8_atLeast_104 5 rfl ?_
    refine r_iload hz dX8_atLeast_106 2 rfl ?_
    refine r_icmp_gt (tgt := 143) hz dX8_atLeast_108 rfl ?_ ?_
    · refine r_aload_n hz dX8_atLeast_143 0 rfl ?_
      refine r_lload hz dX8_atLeast_144 4 rfl ?_
      refine r_iload hz dX8_atLeast_146 1 rfl ?_
      refine r_iload hz dX8_atLeast_148 3 rfl ?_
      refine r_callSl (As := fun _ => [.int x4, .int x6]) hz (fun _ _ h => t_X8_choose _ _ _ _ _ h) cal_X8_choose dX8_atLeast_150 wm_7_44 wm_7_45 rfl rfl (Nat.le_of_ble_eq_true rfl) ⟨(Nat.le_of_ble_eq_true rfl), (Nat.le_of_ble_eq_true rfl)⟩ ⟨(Nat.le_of_ble_eq_true rfl), (Nat.le_of_ble_eq_true rfl)⟩ (fun v2 M1 => ?_)
      refine r_callVl (As := fun _ => [.long x7, .long v2]) cl8 hz (fun _ _ h => t_X8_least _ _ _ _ _ _ h) cal_X8_least dX8_atLeast_153 wm_7_1 wm_7_3 wm_p_86 rfl rfl (Nat.le_of_ble_eq_true rfl) ⟨(Nat.le_of_ble_eq_true rfl), (Nat.le_of_ble_eq_true rfl)⟩ ⟨(Nat.le_of_ble_eq_true rfl), (Nat.le_of_ble_eq_true rfl)⟩ (fun v4 M3 => ?_)
      exact r_lret hz hq dX8_atLeast_156 (Nat.le_of_ble_eq_true rfl) (Nat.le_of_ble_eq_true rfl)
    · refine r_lload hz dX8_atLeast_111 4 rfl ?_
      refine r_iload hz dX8_atLeast_113 2 rfl ?_
      refine r_iload hz dX8_atLeast_115 5 rfl ?_
      refine r_callSl (As := fun _ => [.int x5, .int x9]) hz (fun _ _ h => t_X8_choose _ _ _ _ _ h) cal_X8_choose dX8_atLeast_117 wm_7_44 wm_7_45 rfl rfl (Nat.le_of_ble_eq_true rfl) ⟨(Nat.le_of_ble_eq_true rfl), (Nat.le_of_ble_eq_true rfl)⟩ ⟨(Nat.le_of_ble_eq_true rfl), (Nat.le_of_ble_eq_true rfl)⟩ (fun v6 M5 => ?_)
      refine r_iload hz dX8_atLeast_120 1 rfl ?_
      refine r_iload hz dX8_atLeast_122 2 rfl ?_
      refine r_isub hz dX8_atLeast_124 ?_
      refine r_iload hz dX8_atLeast_125 3 rfl ?_
      refine r_iload hz dX8_atLeast_127 5 rfl ?_
      refine r_isub hz dX8_atLeast_129 ?_
      refine r_callSl (As := fun _ => [.int (x4 - x5), .int (x6 - x9)]) hz (fun _ _ h => t_X8_choose _ _ _ _ _ h) cal_X8_choose dX8_atLeast_130 wm_7_44 wm_7_45 rfl rfl (Nat.le_of_ble_eq_true rfl) ⟨(Nat.le_of_ble_eq_true rfl), (Nat.le_of_ble_eq_true rfl)⟩ ⟨(Nat.le_of_ble_eq_true rfl), (Nat.le_of_ble_eq_true rfl)⟩ (fun v8 M7 => ?_)
      refine r_lmul hz dX8_atLeast_133 ?_
      refine r_ladd hz dX8_atLeast_134 ?_
      refine r_nml (fun v9 => ?_)
      refine r_lstore (lv' := [(7, .long v9), (0, .ref x0), (4, .int x4), (5, .int x5), (6, .int x6), (9, .int x9)]) hz dX8_atLeast_135 (by decide) rfl ?_
      refine r_iinc (v := (x9 + (1 : Int32))) (lv' := [(9, .int (x9 + (1 : Int32))), (7, .long v9), (0, .ref x0), (4, .int x4), (5, .int x5), (6, .int x6)]) hz dX8_atLeast_137 5 rfl rfl (by decide) rfl ?_
      refine r_goto (tgt := 104) hz dX8_atLeast_140 rfl ?_
      refine r_sub [2, 3, 4, 5, 1, 0] rfl ?_
      exact ih x0 x4 x5 x6 v9 (x9 + (1 : Int32)) M7
def f_X8_atLeast (p0 : Nat) (p1 : Int32) (p2 : Int32) (p3 : Int32) (M : Mm) : Option (Int64 × Mm) :=
  ck (gK M p0 = 8) (nm (sI M p0 0 (0 : Int32)) fun M1 =>
  ck (gK M1 p0 = 8) (bd (f_X8_isHolder p0 p1 M1) fun v3 M2 =>
  (if v3 = 0 then
    some ((-1 : Int64), M2)
  else
    ck (gK M2 p0 = 8) (bd (f_X8_isLoan p0 p2 M2) fun v5 M4 =>
    (if v5 = 0 then
      some ((-1 : Int64), M4)
    else
      bd (f_X8_within (p3).toInt64 (0 : Int64) (60 : Int64) M4) fun v7 M6 =>
      (if v7 = 0 then
        some ((-1 : Int64), M6)
      else
        ck (gK M6 p0 = 8) (bR (gR M6 p0 17) fun q8 => ck (gK M6 q8 = 10 ∧ inb (1206 : Int32) (gN M6 q8)) (ck (gK M6 p0 = 8) (bd (f_X8_loanOf p0 p2 (3 : Int32) M6) fun v10 M9 =>
        (if (gI M6 q8 ((1206 : Int32)).toNatClampNeg) < v10 then
          ck (gK M9 p0 = 8) (bd (f_X8_tells_ p0 p2 M9) fun _ M11 =>
          ck (gK M11 p0 = 8) (bd (f_X8_howMany p0 p2 (0 : Int32) M11) fun v13 M12 =>
          ck (gK M12 p0 = 8) (bd (f_X8_held p0 p1 p2 (0 : Int32) M12) fun v15 M14 =>
          ck (gK M14 p0 = 8) (bR (gR M14 p0 27) fun q16 => ck (gK M14 p0 = 8) (bR (gR M14 p0 17) fun q17 => ck (gK M14 q17 = 10 ∧ inb (1206 : Int32) (gN M14 q17)) (ck (gK M14 q16 = 10 ∧ inb (((6 : Int32) * ((gI M14 q17 ((1206 : Int32)).toNatClampNeg) + (1 : Int32))) + (2 : Int32)) (gN M14 q16)) (nm (gI M14 q16 ((((6 : Int32) * ((gI M14 q17 ((1206 : Int32)).toNatClampNeg) + (1 : Int32))) + (2 : Int32))).toNatClampNeg) fun v18 =>
          f_X8_atLeast_104 FU p0 v13 v15 v18 (0 : Int64) p3 M14)))))))
        else
          some ((-1 : Int64), M9)))))))))))
set_option maxRecDepth 20000 in
set_option maxHeartbeats 4000000 in
theorem t_X8_atLeast (p0 : Nat) (p1 : Int32) (p2 : Int32) (p3 : Int32) (M : Mm) (x : Int64) (M' : Mm) (h : f_X8_atLeast p0 p1 p2 p3 M = some (x, M')) : Ctr yX8_atLeast cX8_atLeast 10 (some .long) rX8_atLeast (fun _ => [.ref p0, .int p1, .int p2, .int p3]) M (zL x) M' := by
  refine ctr_of (plainFor_of_name (by decide)) (fun _ => Nat.le_of_ble_eq_true rfl) (fun z hz hin hq => ?_)
  have key : Sim z 0 [(0, .ref p0), (1, .int p1), (2, .int p2), (3, .int p3)] [] M 0 0 (f_X8_atLeast p0 p1 p2 p3 M) (fun a b => a = x ∧ b = M') := by
    have hq : Ret z zL (fun a b => a = x ∧ b = M') := fun a b e => by rw [e.1, e.2]; exact hq
    unfold f_X8_atLeast
    refine r_aload_n hz dX8_atLeast_0 0 rfl ?_
    refine r_iconst (v := 0) hz dX8_atLeast_1 rfl ?_
    refine r_putI (j := 0) cl8 hz dX8_atLeast_2 (by decide) wm_5_56 (Or.inl rfl) rfl rfl rfl ?_
    refine r_nmM (fun M1 => ?_)
    refine r_aload_n hz dX8_atLeast_5 0 rfl ?_
    refine r_iload_n hz dX8_atLeast_6 1 rfl ?_
    refine r_callVi (As := fun _ => [.int p1]) cl8 hz (fun _ _ h => t_X8_isHolder _ _ _ _ _ h) cal_X8_isHolder dX8_atLeast_7 wm_6_88 wm_6_90 wm_p_68 rfl rfl (Nat.le_of_ble_eq_true rfl) ⟨(Nat.le_of_ble_eq_true rfl), (Nat.le_of_ble_eq_true rfl)⟩ ⟨(Nat.le_of_ble_eq_true rfl), (Nat.le_of_ble_eq_true rfl)⟩ (fun v3 M2 => ?_)
    refine r_if_eq (tgt := 50) hz dX8_atLeast_10 rfl ?_ ?_
    · refine r_ldc2 (v := -1) hz dX8_atLeast_50 wm_6_224 ?_
      exact r_lret hz hq dX8_atLeast_53 (Nat.le_of_ble_eq_true rfl) (Nat.le_of_ble_eq_true rfl)
    · refine r_aload_n hz dX8_atLeast_13 0 rfl ?_
      refine r_iload_n hz dX8_atLeast_14 2 rfl ?_
      refine r_callVi (As := fun _ => [.int p2]) cl8 hz (fun _ _ h => t_X8_isLoan _ _ _ _ _ h) cal_X8_isLoan dX8_atLeast_15 wm_6_79 wm_6_81 wm_p_67 rfl rfl (Nat.le_of_ble_eq_true rfl) ⟨(Nat.le_of_ble_eq_true rfl), (Nat.le_of_ble_eq_true rfl)⟩ ⟨(Nat.le_of_ble_eq_true rfl), (Nat.le_of_ble_eq_true rfl)⟩ (fun v5 M4 => ?_)
      refine r_if_eq (tgt := 50) hz dX8_atLeast_18 rfl ?_ ?_
      · refine r_ldc2 (v := -1) hz dX8_atLeast_50 wm_6_224 ?_
        exact r_lret hz hq dX8_atLeast_53 (Nat.le_of_ble_eq_true rfl) (Nat.le_of_ble_eq_true rfl)
      · refine r_iload_n hz dX8_atLeast_21 3 rfl ?_
        refine r_i2l hz dX8_atLeast_22 ?_
        refine r_lconst (v := 0) hz dX8_atLeast_23 rfl ?_
        refine r_ldc2 (v := 60) hz dX8_atLeast_24 wm_7_43 ?_
        refine r_callSi (As := fun _ => [.long (p3).toInt64, .long (0 : Int64), .long (60 : Int64)]) hz (fun _ _ h => t_X8_within _ _ _ _ _ _ h) cal_X8_within dX8_atLeast_27 wm_5_175 wm_5_176 rfl rfl (Nat.le_of_ble_eq_true rfl) ⟨(Nat.le_of_ble_eq_true rfl), (Nat.le_of_ble_eq_true rfl)⟩ ⟨(Nat.le_of_ble_eq_true rfl), (Nat.le_of_ble_eq_true rfl)⟩ (fun v7 M6 => ?_)
        refine r_if_eq (tgt := 50) hz dX8_atLeast_30 rfl ?_ ?_
        · refine r_ldc2 (v := -1) hz dX8_atLeast_50 wm_6_224 ?_
          exact r_lret hz hq dX8_atLeast_53 (Nat.le_of_ble_eq_true rfl) (Nat.le_of_ble_eq_true rfl)
        · refine r_aload_n hz dX8_atLeast_33 0 rfl ?_
          refine r_getR (j := 17) cl8 hz dX8_atLeast_34 (by decide) wm_5_73 rfl (fun q8 => ?_)
          refine r_sipush (v := 1206) hz dX8_atLeast_37 rfl ?_
          refine r_iald hz dX8_atLeast_40 ?_
          refine r_aload_n hz dX8_atLeast_41 0 rfl ?_
          refine r_iload_n hz dX8_atLeast_42 2 rfl ?_
          refine r_iconst (v := 3) hz dX8_atLeast_43 rfl ?_
          refine r_callVi (As := fun _ => [.int p2, .int (3 : Int32)]) cl8 hz (fun _ _ h => t_X8_loanOf _ _ _ _ _ _ h) cal_X8_loanOf dX8_atLeast_44 wm_6_68 wm_6_70 wm_p_66 rfl rfl (Nat.le_of_ble_eq_true rfl) ⟨(Nat.le_of_ble_eq_true rfl), (Nat.le_of_ble_eq_true rfl)⟩ ⟨(Nat.le_of_ble_eq_true rfl), (Nat.le_of_ble_eq_true rfl)⟩ (fun v10 M9 => ?_)
          refine r_icmp_lt (tgt := 54) hz dX8_atLeast_47 rfl ?_ ?_
          · refine r_aload_n hz dX8_atLeast_54 0 rfl ?_
            refine r_iload_n hz dX8_atLeast_55 2 rfl ?_
            refine r_callVv (As := fun _ => [.int p2]) cl8 hz (fun _ _ h => t_X8_tells_ _ _ _ _ _ h) cal_X8_tells_ dX8_atLeast_56 wm_6_212 wm_6_214 wm_p_82 rfl rfl (Nat.le_of_ble_eq_true rfl) ⟨(Nat.le_of_ble_eq_true rfl), (Nat.le_of_ble_eq_true rfl)⟩ ⟨(Nat.le_of_ble_eq_true rfl), (Nat.le_of_ble_eq_true rfl)⟩ (fun _ M11 => ?_)
            refine r_aload_n hz dX8_atLeast_59 0 rfl ?_
            refine r_iload_n hz dX8_atLeast_60 2 rfl ?_
            refine r_iconst (v := 0) hz dX8_atLeast_61 rfl ?_
            refine r_callVi (As := fun _ => [.int p2, .int (0 : Int32)]) cl8 hz (fun _ _ h => t_X8_howMany _ _ _ _ _ _ h) cal_X8_howMany dX8_atLeast_62 wm_6_64 wm_6_66 wm_p_65 rfl rfl (Nat.le_of_ble_eq_true rfl) ⟨(Nat.le_of_ble_eq_true rfl), (Nat.le_of_ble_eq_true rfl)⟩ ⟨(Nat.le_of_ble_eq_true rfl), (Nat.le_of_ble_eq_true rfl)⟩ (fun v13 M12 => ?_)
            refine r_istore (lv' := [(4, .int v13), (0, .ref p0), (1, .int p1), (2, .int p2), (3, .int p3)]) hz dX8_atLeast_65 (by decide) rfl ?_
            refine r_aload_n hz dX8_atLeast_67 1 rfl ?_
            refine r_iload_n hz dX8_atLeast_68 2 rfl ?_
            refine r_iload_n hz dX8_atLeast_69 3 rfl ?_
            refine r_iconst (v := 0) hz dX8_atLeast_70 rfl ?_
            refine r_callVi (As := fun _ => [.int p1, .int p2, .int (0 : Int32)]) cl8 hz (fun _ _ h => t_X8_held _ _ _ _ _ _ _ h) cal_X8_held dX8_atLeast_71 wm_6_172 wm_6_93 wm_6_94 rfl rfl (Nat.le_of_ble_eq_true rfl) ⟨(Nat.le_of_ble_eq_true rfl), (Nat.le_of_ble_eq_true rfl)⟩ ⟨(Nat.le_of_ble_eq_true rfl), (Nat.le_of_ble_eq_true rfl)⟩ (fun v15 M14 => ?_)
            refine r_istore (lv' := [(5, .int v15), (4, .int v13), (0, .ref p0), (1, .int p1), (2, .int p2), (3, .int p3)]) hz dX8_atLeast_74 (by decide) rfl ?_
            refine r_aload_n hz dX8_atLeast_76 2 rfl ?_
            refine r_getR (j := 27) cl8 hz dX8_atLeast_77 (by decide) wm_5_83 rfl (fun q16 => ?_)
            refine r_bipush (v := 6) hz dX8_atLeast_80 rfl ?_
            refine r_aload_n hz dX8_atLeast_82 2 rfl ?_
            refine r_getR (j := 17) cl8 hz dX8_atLeast_83 (by decide) wm_5_73 rfl (fun q17 => ?_)
            refine r_sipush (v := 1206) hz dX8_atLeast_86 rfl ?_
            refine r_iald hz dX8_atLeast_89 ?_
            refine r_iconst (v := 1) hz dX8_atLeast_90 rfl ?_
            refine r_iadd hz dX8_atLeast_91 ?_
            refine r_imul hz dX8_atLeast_92 ?_
            refine r_iconst (v := 2) hz dX8_atLeast_93 rfl ?_
            refine r_iadd hz dX8_atLeast_94 ?_
            refine r_iald hz dX8_atLeast_95 ?_
            refine r_nmi (fun v18 => ?_)
            refine r_istore (lv' := [(6, .int v18), (5, .int v15), (4, .int v13), (0, .ref p0), (1, .int p1), (2, .int p2), (3, .int p3)]) hz dX8_atLeast_96 (by decide) rfl ?_
            refine r_lconst (v := 0) hz dX8_atLeast_98 rfl ?_
            refine r_lstore (lv' := [(7, .long (0 : Int64)), (6, .int v18), (5, .int v15), (4, .int v13), (0, .ref p0), (1, .int p1), (2, .int p2), (3, .int p3)]) hz dX8_atLeast_99 (by decide) rfl ?_
            refine r_iload_n hz dX8_atLeast_101 7 rfl ?_
            refine r_istore (lv' := [(9, .int p3), (7, .long (0 : Int64)), (6, .int v18), (5, .int v15), (4, .int v13), (0, .ref p0), (1, .int p1), (2, .int p2), (3, .int p3)]) hz dX8_atLeast_102 (by decide) rfl ?_
            refine r_sub [5, 4, 3, 2, 1, 0] rfl ?_
            exact s_X8_atLeast_104 hz hq FU p0 v13 v15 v18 (0 : Int64) p3 M14
          · refine r_ldc2 (v := -1) hz dX8_atLeast_50 wm_6_224 ?_
            exact r_lret hz hq dX8_atLeast_53 (Nat.le_of_ble_eq_true rfl) (Nat.le_of_ble_eq_true rfl)
  exact key x M' h ⟨rfl, rfl⟩
theorem dX8_lasting_0 : decode cX8_lasting 0 = .ok (.aload_n 0, 1) := by decide +kernel
theorem dX8_lasting_1 : decode cX8_lasting 1 = .ok (.iconst 0, 1) := by decide +kernel
theorem dX8_lasting_2 : decode cX8_lasting 2 = .ok (.putfield 46, 3) := by decide +kernel
theorem dX8_lasting_5 : decode cX8_lasting 5 = .ok (.aload_n 0, 1) := by decide +kernel
theorem dX8_lasting_6 : decode cX8_lasting 6 = .ok (.iload_n 1, 1) := by decide +kernel
theorem dX8_lasting_7 : decode cX8_lasting 7 = .ok (.invokevirtual 244, 3) := by decide +kernel
theorem dX8_lasting_10 : decode cX8_lasting 10 = .ok (.ifCond .eq 28, 3) := by decide +kernel
theorem dX8_lasting_13 : decode cX8_lasting 13 = .ok (.aload_n 0, 1) := by decide +kernel
theorem dX8_lasting_14 : decode cX8_lasting 14 = .ok (.iload_n 2, 1) := by decide +kernel
theorem dX8_lasting_15 : decode cX8_lasting 15 = .ok (.invokevirtual 222, 3) := by decide +kernel
theorem dX8_lasting_18 : decode cX8_lasting 18 = .ok (.ifCond .eq 20, 3) := by decide +kernel
theorem dX8_lasting_21 : decode cX8_lasting 21 = .ok (.aload_n 0, 1) := by decide +kernel
theorem dX8_lasting_22 : decode cX8_lasting 22 = .ok (.getfield 20, 3) := by decide +kernel
theorem dX8_lasting_25 : decode cX8_lasting 25 = .ok (.sipush 1206, 3) := by decide +kernel
theorem dX8_lasting_28 : decode cX8_lasting 28 = .ok (.iaload, 1) := by decide +kernel
theorem dX8_lasting_29 : decode cX8_lasting 29 = .ok (.aload_n 0, 1) := by decide +kernel
theorem dX8_lasting_30 : decode cX8_lasting 30 = .ok (.iload_n 2, 1) := by decide +kernel
theorem dX8_lasting_31 : decode cX8_lasting 31 = .ok (.iconst 3, 1) := by decide +kernel
theorem dX8_lasting_32 : decode cX8_lasting 32 = .ok (.invokevirtual 225, 3) := by decide +kernel
theorem dX8_lasting_35 : decode cX8_lasting 35 = .ok (.if_icmp .lt 7, 3) := by decide +kernel
theorem dX8_lasting_38 : decode cX8_lasting 38 = .ok (.ldc2_w 335, 3) := by decide +kernel
theorem dX8_lasting_41 : decode cX8_lasting 41 = .ok (.lreturn, 1) := by decide +kernel
theorem dX8_lasting_42 : decode cX8_lasting 42 = .ok (.aload_n 0, 1) := by decide +kernel
theorem dX8_lasting_43 : decode cX8_lasting 43 = .ok (.iload_n 1, 1) := by decide +kernel
theorem dX8_lasting_44 : decode cX8_lasting 44 = .ok (.iload_n 2, 1) := by decide +kernel
theorem dX8_lasting_45 : decode cX8_lasting 45 = .ok (.iconst 0, 1) := by decide +kernel
theorem dX8_lasting_46 : decode cX8_lasting 46 = .ok (.invokevirtual 311, 3) := by decide +kernel
theorem dX8_lasting_49 : decode cX8_lasting 49 = .ok (.istore_n 3, 1) := by decide +kernel
theorem dX8_lasting_50 : decode cX8_lasting 50 = .ok (.iload_n 3, 1) := by decide +kernel
theorem dX8_lasting_51 : decode cX8_lasting 51 = .ok (.ifCond .ne 7, 3) := by decide +kernel
theorem dX8_lasting_54 : decode cX8_lasting 54 = .ok (.ldc2_w 335, 3) := by decide +kernel
theorem dX8_lasting_57 : decode cX8_lasting 57 = .ok (.lreturn, 1) := by decide +kernel
theorem dX8_lasting_58 : decode cX8_lasting 58 = .ok (.aload_n 0, 1) := by decide +kernel
theorem dX8_lasting_59 : decode cX8_lasting 59 = .ok (.iload_n 2, 1) := by decide +kernel
theorem dX8_lasting_60 : decode cX8_lasting 60 = .ok (.invokevirtual 333, 3) := by decide +kernel
theorem dX8_lasting_63 : decode cX8_lasting 63 = .ok (.aload_n 0, 1) := by decide +kernel
theorem dX8_lasting_64 : decode cX8_lasting 64 = .ok (.iload_n 2, 1) := by decide +kernel
theorem dX8_lasting_65 : decode cX8_lasting 65 = .ok (.iconst 0, 1) := by decide +kernel
theorem dX8_lasting_66 : decode cX8_lasting 66 = .ok (.invokevirtual 232, 3) := by decide +kernel
theorem dX8_lasting_69 : decode cX8_lasting 69 = .ok (.istore 4, 2) := by decide +kernel
theorem dX8_lasting_71 : decode cX8_lasting 71 = .ok (.iconst 0, 1) := by decide +kernel
theorem dX8_lasting_72 : decode cX8_lasting 72 = .ok (.istore 5, 2) := by decide +kernel
theorem dX8_lasting_74 : decode cX8_lasting 74 = .ok (.aload_n 0, 1) := by decide +kernel
theorem dX8_lasting_75 : decode cX8_lasting 75 = .ok (.getfield 20, 3) := by decide +kernel
theorem dX8_lasting_78 : decode cX8_lasting 78 = .ok (.sipush 1206, 3) := by decide +kernel
theorem dX8_lasting_81 : decode cX8_lasting 81 = .ok (.iaload, 1) := by decide +kernel
theorem dX8_lasting_82 : decode cX8_lasting 82 = .ok (.iconst 1, 1) := by decide +kernel
theorem dX8_lasting_83 : decode cX8_lasting 83 = .ok (.iadd, 1) := by decide +kernel
theorem dX8_lasting_84 : decode cX8_lasting 84 = .ok (.istore 6, 2) := by decide +kernel
theorem dX8_lasting_86 : decode cX8_lasting 86 = .ok (.iload 6, 2) := by decide +kernel
theorem dX8_lasting_88 : decode cX8_lasting 88 = .ok (.aload_n 0, 1) := by decide +kernel
theorem dX8_lasting_89 : decode cX8_lasting 89 = .ok (.iload_n 2, 1) := by decide +kernel
theorem dX8_lasting_90 : decode cX8_lasting 90 = .ok (.iconst 3, 1) := by decide +kernel
theorem dX8_lasting_91 : decode cX8_lasting 91 = .ok (.invokevirtual 225, 3) := by decide +kernel
theorem dX8_lasting_94 : decode cX8_lasting 94 = .ok (.if_icmp .ge 26, 3) := by decide +kernel
theorem dX8_lasting_97 : decode cX8_lasting 97 = .ok (.iload 5, 2) := by decide +kernel
theorem dX8_lasting_99 : decode cX8_lasting 99 = .ok (.aload_n 0, 1) := by decide +kernel
theorem dX8_lasting_100 : decode cX8_lasting 100 = .ok (.getfield 36, 3) := by decide +kernel
theorem dX8_lasting_103 : decode cX8_lasting 103 = .ok (.bipush 6, 2) := by decide +kernel
theorem dX8_lasting_105 : decode cX8_lasting 105 = .ok (.iload 6, 2) := by decide +kernel
theorem dX8_lasting_107 : decode cX8_lasting 107 = .ok (.imul, 1) := by decide +kernel
theorem dX8_lasting_108 : decode cX8_lasting 108 = .ok (.iconst 2, 1) := by decide +kernel
theorem dX8_lasting_109 : decode cX8_lasting 109 = .ok (.iadd, 1) := by decide +kernel
theorem dX8_lasting_110 : decode cX8_lasting 110 = .ok (.iaload, 1) := by decide +kernel
theorem dX8_lasting_111 : decode cX8_lasting 111 = .ok (.iadd, 1) := by decide +kernel
theorem dX8_lasting_112 : decode cX8_lasting 112 = .ok (.istore 5, 2) := by decide +kernel
theorem dX8_lasting_114 : decode cX8_lasting 114 = .ok (.iinc 6 1, 3) := by decide +kernel
theorem dX8_lasting_117 : decode cX8_lasting 117 = .ok (.goto (-31), 3) := by decide +kernel
theorem dX8_lasting_120 : decode cX8_lasting 120 = .ok (.aload_n 0, 1) := by decide +kernel
theorem dX8_lasting_121 : decode cX8_lasting 121 = .ok (.iload 4, 2) := by decide +kernel
theorem dX8_lasting_123 : decode cX8_lasting 123 = .ok (.iload_n 3, 1) := by decide +kernel
theorem dX8_lasting_124 : decode cX8_lasting 124 = .ok (.isub, 1) := by decide +kernel
theorem dX8_lasting_125 : decode cX8_lasting 125 = .ok (.iload 5, 2) := by decide +kernel
theorem dX8_lasting_127 : decode cX8_lasting 127 = .ok (.invokestatic 379, 3) := by decide +kernel
theorem dX8_lasting_130 : decode cX8_lasting 130 = .ok (.iload 4, 2) := by decide +kernel
theorem dX8_lasting_132 : decode cX8_lasting 132 = .ok (.iload 5, 2) := by decide +kernel
theorem dX8_lasting_134 : decode cX8_lasting 134 = .ok (.invokestatic 379, 3) := by decide +kernel
theorem dX8_lasting_137 : decode cX8_lasting 137 = .ok (.invokevirtual 344, 3) := by decide +kernel
theorem dX8_lasting_140 : decode cX8_lasting 140 = .ok (.lreturn, 1) := by decide +kernel
abbrev rX8_lasting : Room := { frames := 4, cells := 0, slots := 0, locals := 100 }
theorem cal_X8_lasting : CalOk yX8_lasting cX8_lasting 7 (some .long) 2 := ⟨wm_7_50, wm_1_9, by decide, by decide, by decide +kernel⟩
def f_X8_lasting_86 : Nat → Nat → Int32 → Int32 → Int32 → Int32 → Int32 → Mm → Option (Int64 × Mm)
  | 0, _, _, _, _, _, _, _ => none
  | n + 1, x0, x2, x3, x4, x5, x6, M =>
    ck (gK M x0 = 8) (bd (f_X8_loanOf x0 x2 (3 : Int32) M) fun v2 M1 =>
    (if v2 ≤ x6 then
      bd (f_X8_choose (x4 - x3) x5 M1) fun v4 M3 =>
      bd (f_X8_choose x4 x5 M3) fun v6 M5 =>
      ck (gK M5 x0 = 8) (bd (f_X8_least x0 v4 v6 M5) fun v8 M7 =>
      some (v8, M7))
    else
      ck (gK M1 x0 = 8) (bR (gR M1 x0 27) fun q9 => ck (gK M1 q9 = 10 ∧ inb (((6 : Int32) * x6) + (2 : Int32)) (gN M1 q9)) (nm (x5 + (gI M1 q9 ((((6 : Int32) * x6) + (2 : Int32))).toNatClampNeg)) fun v10 =>
      f_X8_lasting_86 n x0 x2 x3 x4 v10 (x6 + (1 : Int32)) M1))))
set_option maxRecDepth 20000 in
set_option maxHeartbeats 4000000 in
theorem s_X8_lasting_86 {z : Zt} {K : Int64 → Mm → Prop} (hz : Good z RX8 cX8_lasting 7 rX8_lasting (some .long)) (hq : Ret z zL K) : ∀ (n : Nat) (x0 : Nat) (x2 : Int32) (x3 : Int32) (x4 : Int32) (x5 : Int32) (x6 : Int32) (M : Mm), Sim z 86 [(0, .ref x0), (2, .int x2), (3, .int x3), (4, .int x4), (5, .int x5), (6, .int x6)] [] M 0 0 (f_X8_lasting_86 n x0 x2 x3 x4 x5 x6 M) K := by
  intro n
  induction n with
  | zero => exact fun _ _ _ _ _ _ _ => r_none
  | succ n ih =>
    intro x0 x2 x3 x4 x5 x6 M
    unfold f_X8_lasting_86
    refine r_iload hz dX8_lasting_86 5 rfl ?_
    refine r_aload_n hz dX8_lasting_88 0 rfl ?_
    refine r_iload_n hz dX8_lasting_89 1 rfl ?_
    refine r_iconst (v := 3) hz dX8_lasting_90 rfl ?_
    refine r_callVi (As := fun _ => [.int x2, .int (3 : Int32)]) cl8 hz (fun _ _ h => t_X8_loanOf _ _ _ _ _ _ h) cal_X8_loanOf dX8_lasting_91 wm_6_68 wm_6_70 wm_p_66 rfl rfl (Nat.le_of_ble_eq_true rfl) ⟨(Nat.le_of_ble_eq_true rfl), (Nat.le_of_ble_eq_true rfl)⟩ ⟨(Nat.le_of_ble_eq_true rfl), (Nat.le_of_ble_eq_true rfl)⟩ (fun v2 M1 => ?_)
    refine r_icmp_ge (tgt := 120) hz dX8_lasting_94 rfl ?_ ?_
    · refine r_aload_n hz dX8_lasting_120 0 rfl ?_
      refine r_iload hz dX8_lasting_121 3 rfl ?_
      refine r_iload_n hz dX8_lasting_123 2 rfl ?_
      refine r_isub hz dX8_lasting_124 ?_
      refine r_iload hz dX8_lasting_125 4 rfl ?_
      refine r_callSl (As := fun _ => [.int (x4 - x3), .int x5]) hz (fun _ _ h => t_X8_choose _ _ _ _ _ h) cal_X8_choose dX8_lasting_127 wm_7_44 wm_7_45 rfl rfl (Nat.le_of_ble_eq_true rfl) ⟨(Nat.le_of_ble_eq_true rfl), (Nat.le_of_ble_eq_true rfl)⟩ ⟨(Nat.le_of_ble_eq_true rfl), (Nat.le_of_ble_eq_true rfl)⟩ (fun v4 M3 => ?_)
      refine r_iload hz dX8_lasting_130 3 rfl ?_
      refine r_iload hz dX8_lasting_132 4 rfl ?_
      refine r_callSl (As := fun _ => [.int x4, .int x5]) hz (fun _ _ h => t_X8_choose _ _ _ _ _ h) cal_X8_choose dX8_lasting_134 wm_7_44 wm_7_45 rfl rfl (Nat.le_of_ble_eq_true rfl) ⟨(Nat.le_of_ble_eq_true rfl), (Nat.le_of_ble_eq_true rfl)⟩ ⟨(Nat.le_of_ble_eq_true rfl), (Nat.le_of_ble_eq_true rfl)⟩ (fun v6 M5 => ?_)
      refine r_callVl (As := fun _ => [.long v4, .long v6]) cl8 hz (fun _ _ h => t_X8_least _ _ _ _ _ _ h) cal_X8_least dX8_lasting_137 wm_7_1 wm_7_3 wm_p_86 rfl rfl (Nat.le_of_ble_eq_true rfl) ⟨(Nat.le_of_ble_eq_true rfl), (Nat.le_of_ble_eq_true rfl)⟩ ⟨(Nat.le_of_ble_eq_true rfl), (Nat.le_of_ble_eq_true rfl)⟩ (fun v8 M7 => ?_)
      exact r_lret hz hq dX8_lasting_140 (Nat.le_of_ble_eq_true rfl) (Nat.le_of_ble_eq_true rfl)
    · refine r_iload hz dX8_lasting_97 4 rfl ?_
      refine r_aload_n hz dX8_lasting_99 0 rfl ?_
      refine r_getR (j := 27) cl8 hz dX8_lasting_100 (by decide) wm_5_83 rfl (fun q9 => ?_)
      refine r_bipush (v := 6) hz dX8_lasting_103 rfl ?_
      refine r_iload hz dX8_lasting_105 5 rfl ?_
      refine r_imul hz dX8_lasting_107 ?_
      refine r_iconst (v := 2) hz dX8_lasting_108 rfl ?_
      refine r_iadd hz dX8_lasting_109 ?_
      refine r_iald hz dX8_lasting_110 ?_
      refine r_iadd hz dX8_lasting_111 ?_
      refine r_nmi (fun v10 => ?_)
      refine r_istore (lv' := [(5, .int v10), (0, .ref x0), (2, .int x2), (3, .int x3), (4, .int x4), (6, .int x6)]) hz dX8_lasting_112 (by decide) rfl ?_
      refine r_iinc (v := (x6 + (1 : Int32))) (lv' := [(6, .int (x6 + (1 : Int32))), (5, .int v10), (0, .ref x0), (2, .int x2), (3, .int x3), (4, .int x4)]) hz dX8_lasting_114 5 rfl rfl (by decide) rfl ?_
      refine r_goto (tgt := 86) hz dX8_lasting_117 rfl ?_
      refine r_sub [2, 3, 4, 5, 1, 0] rfl ?_
      exact ih x0 x2 x3 x4 v10 (x6 + (1 : Int32)) M1
def f_X8_lasting (p0 : Nat) (p1 : Int32) (p2 : Int32) (M : Mm) : Option (Int64 × Mm) :=
  ck (gK M p0 = 8) (nm (sI M p0 0 (0 : Int32)) fun M1 =>
  ck (gK M1 p0 = 8) (bd (f_X8_isHolder p0 p1 M1) fun v3 M2 =>
  (if v3 = 0 then
    some ((-1 : Int64), M2)
  else
    ck (gK M2 p0 = 8) (bd (f_X8_isLoan p0 p2 M2) fun v5 M4 =>
    (if v5 = 0 then
      some ((-1 : Int64), M4)
    else
      ck (gK M4 p0 = 8) (bR (gR M4 p0 17) fun q6 => ck (gK M4 q6 = 10 ∧ inb (1206 : Int32) (gN M4 q6)) (ck (gK M4 p0 = 8) (bd (f_X8_loanOf p0 p2 (3 : Int32) M4) fun v8 M7 =>
      (if (gI M4 q6 ((1206 : Int32)).toNatClampNeg) < v8 then
        ck (gK M7 p0 = 8) (bd (f_X8_held p0 p1 p2 (0 : Int32) M7) fun v10 M9 =>
        (if ¬ v10 = 0 then
          ck (gK M9 p0 = 8) (bd (f_X8_tells_ p0 p2 M9) fun _ M11 =>
          ck (gK M11 p0 = 8) (bd (f_X8_howMany p0 p2 (0 : Int32) M11) fun v13 M12 =>
          ck (gK M12 p0 = 8) (bR (gR M12 p0 17) fun q14 => ck (gK M12 q14 = 10 ∧ inb (1206 : Int32) (gN M12 q14)) (nm ((gI M12 q14 ((1206 : Int32)).toNatClampNeg) + (1 : Int32)) fun v15 =>
          f_X8_lasting_86 FU p0 p2 v10 v13 (0 : Int32) v15 M12))))
        else
          some ((-1 : Int64), M9)))
      else
        some ((-1 : Int64), M7))))))))))
set_option maxRecDepth 20000 in
set_option maxHeartbeats 4000000 in
theorem t_X8_lasting (p0 : Nat) (p1 : Int32) (p2 : Int32) (M : Mm) (x : Int64) (M' : Mm) (h : f_X8_lasting p0 p1 p2 M = some (x, M')) : Ctr yX8_lasting cX8_lasting 7 (some .long) rX8_lasting (fun _ => [.ref p0, .int p1, .int p2]) M (zL x) M' := by
  refine ctr_of (plainFor_of_name (by decide)) (fun _ => Nat.le_of_ble_eq_true rfl) (fun z hz hin hq => ?_)
  have key : Sim z 0 [(0, .ref p0), (1, .int p1), (2, .int p2)] [] M 0 0 (f_X8_lasting p0 p1 p2 M) (fun a b => a = x ∧ b = M') := by
    have hq : Ret z zL (fun a b => a = x ∧ b = M') := fun a b e => by rw [e.1, e.2]; exact hq
    unfold f_X8_lasting
    refine r_aload_n hz dX8_lasting_0 0 rfl ?_
    refine r_iconst (v := 0) hz dX8_lasting_1 rfl ?_
    refine r_putI (j := 0) cl8 hz dX8_lasting_2 (by decide) wm_5_56 (Or.inl rfl) rfl rfl rfl ?_
    refine r_nmM (fun M1 => ?_)
    refine r_aload_n hz dX8_lasting_5 0 rfl ?_
    refine r_iload_n hz dX8_lasting_6 1 rfl ?_
    refine r_callVi (As := fun _ => [.int p1]) cl8 hz (fun _ _ h => t_X8_isHolder _ _ _ _ _ h) cal_X8_isHolder dX8_lasting_7 wm_6_88 wm_6_90 wm_p_68 rfl rfl (Nat.le_of_ble_eq_true rfl) ⟨(Nat.le_of_ble_eq_true rfl), (Nat.le_of_ble_eq_true rfl)⟩ ⟨(Nat.le_of_ble_eq_true rfl), (Nat.le_of_ble_eq_true rfl)⟩ (fun v3 M2 => ?_)
    refine r_if_eq (tgt := 38) hz dX8_lasting_10 rfl ?_ ?_
    · refine r_ldc2 (v := -1) hz dX8_lasting_38 wm_6_224 ?_
      exact r_lret hz hq dX8_lasting_41 (Nat.le_of_ble_eq_true rfl) (Nat.le_of_ble_eq_true rfl)
    · refine r_aload_n hz dX8_lasting_13 0 rfl ?_
      refine r_iload_n hz dX8_lasting_14 2 rfl ?_
      refine r_callVi (As := fun _ => [.int p2]) cl8 hz (fun _ _ h => t_X8_isLoan _ _ _ _ _ h) cal_X8_isLoan dX8_lasting_15 wm_6_79 wm_6_81 wm_p_67 rfl rfl (Nat.le_of_ble_eq_true rfl) ⟨(Nat.le_of_ble_eq_true rfl), (Nat.le_of_ble_eq_true rfl)⟩ ⟨(Nat.le_of_ble_eq_true rfl), (Nat.le_of_ble_eq_true rfl)⟩ (fun v5 M4 => ?_)
      refine r_if_eq (tgt := 38) hz dX8_lasting_18 rfl ?_ ?_
      · refine r_ldc2 (v := -1) hz dX8_lasting_38 wm_6_224 ?_
        exact r_lret hz hq dX8_lasting_41 (Nat.le_of_ble_eq_true rfl) (Nat.le_of_ble_eq_true rfl)
      · refine r_aload_n hz dX8_lasting_21 0 rfl ?_
        refine r_getR (j := 17) cl8 hz dX8_lasting_22 (by decide) wm_5_73 rfl (fun q6 => ?_)
        refine r_sipush (v := 1206) hz dX8_lasting_25 rfl ?_
        refine r_iald hz dX8_lasting_28 ?_
        refine r_aload_n hz dX8_lasting_29 0 rfl ?_
        refine r_iload_n hz dX8_lasting_30 2 rfl ?_
        refine r_iconst (v := 3) hz dX8_lasting_31 rfl ?_
        refine r_callVi (As := fun _ => [.int p2, .int (3 : Int32)]) cl8 hz (fun _ _ h => t_X8_loanOf _ _ _ _ _ _ h) cal_X8_loanOf dX8_lasting_32 wm_6_68 wm_6_70 wm_p_66 rfl rfl (Nat.le_of_ble_eq_true rfl) ⟨(Nat.le_of_ble_eq_true rfl), (Nat.le_of_ble_eq_true rfl)⟩ ⟨(Nat.le_of_ble_eq_true rfl), (Nat.le_of_ble_eq_true rfl)⟩ (fun v8 M7 => ?_)
        refine r_icmp_lt (tgt := 42) hz dX8_lasting_35 rfl ?_ ?_
        · refine r_aload_n hz dX8_lasting_42 0 rfl ?_
          refine r_iload_n hz dX8_lasting_43 1 rfl ?_
          refine r_iload_n hz dX8_lasting_44 2 rfl ?_
          refine r_iconst (v := 0) hz dX8_lasting_45 rfl ?_
          refine r_callVi (As := fun _ => [.int p1, .int p2, .int (0 : Int32)]) cl8 hz (fun _ _ h => t_X8_held _ _ _ _ _ _ _ h) cal_X8_held dX8_lasting_46 wm_6_172 wm_6_93 wm_6_94 rfl rfl (Nat.le_of_ble_eq_true rfl) ⟨(Nat.le_of_ble_eq_true rfl), (Nat.le_of_ble_eq_true rfl)⟩ ⟨(Nat.le_of_ble_eq_true rfl), (Nat.le_of_ble_eq_true rfl)⟩ (fun v10 M9 => ?_)
          refine r_istore_n (lv' := [(3, .int v10), (0, .ref p0), (1, .int p1), (2, .int p2)]) hz dX8_lasting_49 (by decide) rfl ?_
          refine r_iload_n hz dX8_lasting_50 0 rfl ?_
          refine r_if_ne (tgt := 58) hz dX8_lasting_51 rfl ?_ ?_
          · refine r_aload_n hz dX8_lasting_58 1 rfl ?_
            refine r_iload_n hz dX8_lasting_59 3 rfl ?_
            refine r_callVv (As := fun _ => [.int p2]) cl8 hz (fun _ _ h => t_X8_tells_ _ _ _ _ _ h) cal_X8_tells_ dX8_lasting_60 wm_6_212 wm_6_214 wm_p_82 rfl rfl (Nat.le_of_ble_eq_true rfl) ⟨(Nat.le_of_ble_eq_true rfl), (Nat.le_of_ble_eq_true rfl)⟩ ⟨(Nat.le_of_ble_eq_true rfl), (Nat.le_of_ble_eq_true rfl)⟩ (fun _ M11 => ?_)
            refine r_aload_n hz dX8_lasting_63 1 rfl ?_
            refine r_iload_n hz dX8_lasting_64 3 rfl ?_
            refine r_iconst (v := 0) hz dX8_lasting_65 rfl ?_
            refine r_callVi (As := fun _ => [.int p2, .int (0 : Int32)]) cl8 hz (fun _ _ h => t_X8_howMany _ _ _ _ _ _ h) cal_X8_howMany dX8_lasting_66 wm_6_64 wm_6_66 wm_p_65 rfl rfl (Nat.le_of_ble_eq_true rfl) ⟨(Nat.le_of_ble_eq_true rfl), (Nat.le_of_ble_eq_true rfl)⟩ ⟨(Nat.le_of_ble_eq_true rfl), (Nat.le_of_ble_eq_true rfl)⟩ (fun v13 M12 => ?_)
            refine r_istore (lv' := [(4, .int v13), (3, .int v10), (0, .ref p0), (1, .int p1), (2, .int p2)]) hz dX8_lasting_69 (by decide) rfl ?_
            refine r_iconst (v := 0) hz dX8_lasting_71 rfl ?_
            refine r_istore (lv' := [(5, .int (0 : Int32)), (4, .int v13), (3, .int v10), (0, .ref p0), (1, .int p1), (2, .int p2)]) hz dX8_lasting_72 (by decide) rfl ?_
            refine r_aload_n hz dX8_lasting_74 3 rfl ?_
            refine r_getR (j := 17) cl8 hz dX8_lasting_75 (by decide) wm_5_73 rfl (fun q14 => ?_)
            refine r_sipush (v := 1206) hz dX8_lasting_78 rfl ?_
            refine r_iald hz dX8_lasting_81 ?_
            refine r_iconst (v := 1) hz dX8_lasting_82 rfl ?_
            refine r_iadd hz dX8_lasting_83 ?_
            refine r_nmi (fun v15 => ?_)
            refine r_istore (lv' := [(6, .int v15), (5, .int (0 : Int32)), (4, .int v13), (3, .int v10), (0, .ref p0), (1, .int p1), (2, .int p2)]) hz dX8_lasting_84 (by decide) rfl ?_
            refine r_sub [4, 6, 3, 2, 1, 0] rfl ?_
            exact s_X8_lasting_86 hz hq FU p0 p2 v10 v13 (0 : Int32) v15 M12
          · refine r_ldc2 (v := -1) hz dX8_lasting_54 wm_6_224 ?_
            exact r_lret hz hq dX8_lasting_57 (Nat.le_of_ble_eq_true rfl) (Nat.le_of_ble_eq_true rfl)
        · refine r_ldc2 (v := -1) hz dX8_lasting_38 wm_6_224 ?_
          exact r_lret hz hq dX8_lasting_41 (Nat.le_of_ble_eq_true rfl) (Nat.le_of_ble_eq_true rfl)
  exact key x M' h ⟨rfl, rfl⟩
theorem dX8_ifPrice_0 : decode cX8_ifPrice 0 = .ok (.aload_n 0, 1) := by decide +kernel
theorem dX8_ifPrice_1 : decode cX8_ifPrice 1 = .ok (.iconst 0, 1) := by decide +kernel
theorem dX8_ifPrice_2 : decode cX8_ifPrice 2 = .ok (.putfield 46, 3) := by decide +kernel
theorem dX8_ifPrice_5 : decode cX8_ifPrice 5 = .ok (.aload_n 0, 1) := by decide +kernel
theorem dX8_ifPrice_6 : decode cX8_ifPrice 6 = .ok (.iload_n 1, 1) := by decide +kernel
theorem dX8_ifPrice_7 : decode cX8_ifPrice 7 = .ok (.iload_n 2, 1) := by decide +kernel
theorem dX8_ifPrice_8 : decode cX8_ifPrice 8 = .ok (.invokevirtual 317, 3) := by decide +kernel
theorem dX8_ifPrice_11 : decode cX8_ifPrice 11 = .ok (.ifCond .eq 31, 3) := by decide +kernel
theorem dX8_ifPrice_14 : decode cX8_ifPrice 14 = .ok (.iload_n 3, 1) := by decide +kernel
theorem dX8_ifPrice_15 : decode cX8_ifPrice 15 = .ok (.i2l, 1) := by decide +kernel
theorem dX8_ifPrice_16 : decode cX8_ifPrice 16 = .ok (.lconst 1, 1) := by decide +kernel
theorem dX8_ifPrice_17 : decode cX8_ifPrice 17 = .ok (.ldc2_w 320, 3) := by decide +kernel
theorem dX8_ifPrice_20 : decode cX8_ifPrice 20 = .ok (.invokestatic 83, 3) := by decide +kernel
theorem dX8_ifPrice_23 : decode cX8_ifPrice 23 = .ok (.ifCond .eq 19, 3) := by decide +kernel
theorem dX8_ifPrice_26 : decode cX8_ifPrice 26 = .ok (.aload_n 0, 1) := by decide +kernel
theorem dX8_ifPrice_27 : decode cX8_ifPrice 27 = .ok (.iload_n 1, 1) := by decide +kernel
theorem dX8_ifPrice_28 : decode cX8_ifPrice 28 = .ok (.iload 4, 2) := by decide +kernel
theorem dX8_ifPrice_30 : decode cX8_ifPrice 30 = .ok (.invokevirtual 317, 3) := by decide +kernel
theorem dX8_ifPrice_33 : decode cX8_ifPrice 33 = .ok (.ifCond .eq 9, 3) := by decide +kernel
theorem dX8_ifPrice_36 : decode cX8_ifPrice 36 = .ok (.iload 4, 2) := by decide +kernel
theorem dX8_ifPrice_38 : decode cX8_ifPrice 38 = .ok (.iload_n 2, 1) := by decide +kernel
theorem dX8_ifPrice_39 : decode cX8_ifPrice 39 = .ok (.if_icmp .ge 5, 3) := by decide +kernel
theorem dX8_ifPrice_42 : decode cX8_ifPrice 42 = .ok (.iconst (-1), 1) := by decide +kernel
theorem dX8_ifPrice_43 : decode cX8_ifPrice 43 = .ok (.ireturn, 1) := by decide +kernel
theorem dX8_ifPrice_44 : decode cX8_ifPrice 44 = .ok (.aload_n 0, 1) := by decide +kernel
theorem dX8_ifPrice_45 : decode cX8_ifPrice 45 = .ok (.iload_n 1, 1) := by decide +kernel
theorem dX8_ifPrice_46 : decode cX8_ifPrice 46 = .ok (.iload_n 2, 1) := by decide +kernel
theorem dX8_ifPrice_47 : decode cX8_ifPrice 47 = .ok (.iload_n 3, 1) := by decide +kernel
theorem dX8_ifPrice_48 : decode cX8_ifPrice 48 = .ok (.iconst 0, 1) := by decide +kernel
theorem dX8_ifPrice_49 : decode cX8_ifPrice 49 = .ok (.invokevirtual 327, 3) := by decide +kernel
theorem dX8_ifPrice_52 : decode cX8_ifPrice 52 = .ok (.aload_n 0, 1) := by decide +kernel
theorem dX8_ifPrice_53 : decode cX8_ifPrice 53 = .ok (.getfield 36, 3) := by decide +kernel
theorem dX8_ifPrice_56 : decode cX8_ifPrice 56 = .ok (.bipush 6, 2) := by decide +kernel
theorem dX8_ifPrice_58 : decode cX8_ifPrice 58 = .ok (.iload 4, 2) := by decide +kernel
theorem dX8_ifPrice_60 : decode cX8_ifPrice 60 = .ok (.imul, 1) := by decide +kernel
theorem dX8_ifPrice_61 : decode cX8_ifPrice 61 = .ok (.iconst 0, 1) := by decide +kernel
theorem dX8_ifPrice_62 : decode cX8_ifPrice 62 = .ok (.iadd, 1) := by decide +kernel
theorem dX8_ifPrice_63 : decode cX8_ifPrice 63 = .ok (.iaload, 1) := by decide +kernel
theorem dX8_ifPrice_64 : decode cX8_ifPrice 64 = .ok (.aload_n 0, 1) := by decide +kernel
theorem dX8_ifPrice_65 : decode cX8_ifPrice 65 = .ok (.getfield 36, 3) := by decide +kernel
theorem dX8_ifPrice_68 : decode cX8_ifPrice 68 = .ok (.bipush 6, 2) := by decide +kernel
theorem dX8_ifPrice_70 : decode cX8_ifPrice 70 = .ok (.iload 4, 2) := by decide +kernel
theorem dX8_ifPrice_72 : decode cX8_ifPrice 72 = .ok (.imul, 1) := by decide +kernel
theorem dX8_ifPrice_73 : decode cX8_ifPrice 73 = .ok (.iconst 2, 1) := by decide +kernel
theorem dX8_ifPrice_74 : decode cX8_ifPrice 74 = .ok (.iadd, 1) := by decide +kernel
theorem dX8_ifPrice_75 : decode cX8_ifPrice 75 = .ok (.iaload, 1) := by decide +kernel
theorem dX8_ifPrice_76 : decode cX8_ifPrice 76 = .ok (.isub, 1) := by decide +kernel
theorem dX8_ifPrice_77 : decode cX8_ifPrice 77 = .ok (.ireturn, 1) := by decide +kernel
abbrev rX8_ifPrice : Room := { frames := 4, cells := 0, slots := 0, locals := 90 }
theorem cal_X8_ifPrice : CalOk yX8_ifPrice cX8_ifPrice 5 (some .int) 4 := ⟨wm_7_54, wm_1_9, by decide, by decide, by decide +kernel⟩
def f_X8_ifPrice (p0 : Nat) (p1 : Int32) (p2 : Int32) (p3 : Int32) (p4 : Int32) (M : Mm) : Option (Int32 × Mm) :=
  ck (gK M p0 = 8) (nm (sI M p0 0 (0 : Int32)) fun M1 =>
  ck (gK M1 p0 = 8) (bd (f_X8_isToCome p0 p1 p2 M1) fun v3 M2 =>
  (if v3 = 0 then
    some ((-1 : Int32), M2)
  else
    bd (f_X8_within (p3).toInt64 (1 : Int64) (999 : Int64) M2) fun v5 M4 =>
    (if v5 = 0 then
      some ((-1 : Int32), M4)
    else
      ck (gK M4 p0 = 8) (bd (f_X8_isToCome p0 p1 p4 M4) fun v7 M6 =>
      (if v7 = 0 then
        some ((-1 : Int32), M6)
      else
        (if p2 ≤ p4 then
          ck (gK M6 p0 = 8) (bd (f_X8_tells p0 p1 p2 p3 (0 : Int32) M6) fun _ M8 =>
          ck (gK M8 p0 = 8) (bR (gR M8 p0 27) fun q9 => ck (gK M8 q9 = 10 ∧ inb (((6 : Int32) * p4) + (0 : Int32)) (gN M8 q9)) (ck (gK M8 p0 = 8) (bR (gR M8 p0 27) fun q10 => ck (gK M8 q10 = 10 ∧ inb (((6 : Int32) * p4) + (2 : Int32)) (gN M8 q10)) (some (((gI M8 q9 ((((6 : Int32) * p4) + (0 : Int32))).toNatClampNeg) - (gI M8 q10 ((((6 : Int32) * p4) + (2 : Int32))).toNatClampNeg)), M8))))))
        else
          some ((-1 : Int32), M6))))))))
set_option maxRecDepth 20000 in
set_option maxHeartbeats 4000000 in
theorem t_X8_ifPrice (p0 : Nat) (p1 : Int32) (p2 : Int32) (p3 : Int32) (p4 : Int32) (M : Mm) (x : Int32) (M' : Mm) (h : f_X8_ifPrice p0 p1 p2 p3 p4 M = some (x, M')) : Ctr yX8_ifPrice cX8_ifPrice 5 (some .int) rX8_ifPrice (fun _ => [.ref p0, .int p1, .int p2, .int p3, .int p4]) M (zI x) M' := by
  refine ctr_of (plainFor_of_name (by decide)) (fun _ => Nat.le_of_ble_eq_true rfl) (fun z hz hin hq => ?_)
  have key : Sim z 0 [(0, .ref p0), (1, .int p1), (2, .int p2), (3, .int p3), (4, .int p4)] [] M 0 0 (f_X8_ifPrice p0 p1 p2 p3 p4 M) (fun a b => a = x ∧ b = M') := by
    have hq : Ret z zI (fun a b => a = x ∧ b = M') := fun a b e => by rw [e.1, e.2]; exact hq
    unfold f_X8_ifPrice
    refine r_aload_n hz dX8_ifPrice_0 0 rfl ?_
    refine r_iconst (v := 0) hz dX8_ifPrice_1 rfl ?_
    refine r_putI (j := 0) cl8 hz dX8_ifPrice_2 (by decide) wm_5_56 (Or.inl rfl) rfl rfl rfl ?_
    refine r_nmM (fun M1 => ?_)
    refine r_aload_n hz dX8_ifPrice_5 0 rfl ?_
    refine r_iload_n hz dX8_ifPrice_6 1 rfl ?_
    refine r_iload_n hz dX8_ifPrice_7 2 rfl ?_
    refine r_callVi (As := fun _ => [.int p1, .int p2]) cl8 hz (fun _ _ h => t_X8_isToCome _ _ _ _ _ _ h) cal_X8_isToCome dX8_ifPrice_8 wm_6_186 wm_6_188 wm_p_81 rfl rfl (Nat.le_of_ble_eq_true rfl) ⟨(Nat.le_of_ble_eq_true rfl), (Nat.le_of_ble_eq_true rfl)⟩ ⟨(Nat.le_of_ble_eq_true rfl), (Nat.le_of_ble_eq_true rfl)⟩ (fun v3 M2 => ?_)
    refine r_if_eq (tgt := 42) hz dX8_ifPrice_11 rfl ?_ ?_
    · refine r_iconst (v := -1) hz dX8_ifPrice_42 rfl ?_
      exact r_iret hz hq dX8_ifPrice_43 (Nat.le_of_ble_eq_true rfl) (Nat.le_of_ble_eq_true rfl)
    · refine r_iload_n hz dX8_ifPrice_14 3 rfl ?_
      refine r_i2l hz dX8_ifPrice_15 ?_
      refine r_lconst (v := 1) hz dX8_ifPrice_16 rfl ?_
      refine r_ldc2 (v := 999) hz dX8_ifPrice_17 wm_6_190 ?_
      refine r_callSi (As := fun _ => [.long (p3).toInt64, .long (1 : Int64), .long (999 : Int64)]) hz (fun _ _ h => t_X8_within _ _ _ _ _ _ h) cal_X8_within dX8_ifPrice_20 wm_5_175 wm_5_176 rfl rfl (Nat.le_of_ble_eq_true rfl) ⟨(Nat.le_of_ble_eq_true rfl), (Nat.le_of_ble_eq_true rfl)⟩ ⟨(Nat.le_of_ble_eq_true rfl), (Nat.le_of_ble_eq_true rfl)⟩ (fun v5 M4 => ?_)
      refine r_if_eq (tgt := 42) hz dX8_ifPrice_23 rfl ?_ ?_
      · refine r_iconst (v := -1) hz dX8_ifPrice_42 rfl ?_
        exact r_iret hz hq dX8_ifPrice_43 (Nat.le_of_ble_eq_true rfl) (Nat.le_of_ble_eq_true rfl)
      · refine r_aload_n hz dX8_ifPrice_26 0 rfl ?_
        refine r_iload_n hz dX8_ifPrice_27 1 rfl ?_
        refine r_iload hz dX8_ifPrice_28 4 rfl ?_
        refine r_callVi (As := fun _ => [.int p1, .int p4]) cl8 hz (fun _ _ h => t_X8_isToCome _ _ _ _ _ _ h) cal_X8_isToCome dX8_ifPrice_30 wm_6_186 wm_6_188 wm_p_81 rfl rfl (Nat.le_of_ble_eq_true rfl) ⟨(Nat.le_of_ble_eq_true rfl), (Nat.le_of_ble_eq_true rfl)⟩ ⟨(Nat.le_of_ble_eq_true rfl), (Nat.le_of_ble_eq_true rfl)⟩ (fun v7 M6 => ?_)
        refine r_if_eq (tgt := 42) hz dX8_ifPrice_33 rfl ?_ ?_
        · refine r_iconst (v := -1) hz dX8_ifPrice_42 rfl ?_
          exact r_iret hz hq dX8_ifPrice_43 (Nat.le_of_ble_eq_true rfl) (Nat.le_of_ble_eq_true rfl)
        · refine r_iload hz dX8_ifPrice_36 4 rfl ?_
          refine r_iload_n hz dX8_ifPrice_38 2 rfl ?_
          refine r_icmp_ge (tgt := 44) hz dX8_ifPrice_39 rfl ?_ ?_
          · refine r_aload_n hz dX8_ifPrice_44 0 rfl ?_
            refine r_iload_n hz dX8_ifPrice_45 1 rfl ?_
            refine r_iload_n hz dX8_ifPrice_46 2 rfl ?_
            refine r_iload_n hz dX8_ifPrice_47 3 rfl ?_
            refine r_iconst (v := 0) hz dX8_ifPrice_48 rfl ?_
            refine r_callVv (As := fun _ => [.int p1, .int p2, .int p3, .int (0 : Int32)]) cl8 hz (fun _ _ h => t_X8_tells _ _ _ _ _ _ _ _ h) cal_X8_tells dX8_ifPrice_49 wm_6_216 wm_6_218 wm_p_83 rfl rfl (Nat.le_of_ble_eq_true rfl) ⟨(Nat.le_of_ble_eq_true rfl), (Nat.le_of_ble_eq_true rfl)⟩ ⟨(Nat.le_of_ble_eq_true rfl), (Nat.le_of_ble_eq_true rfl)⟩ (fun _ M8 => ?_)
            refine r_aload_n hz dX8_ifPrice_52 0 rfl ?_
            refine r_getR (j := 27) cl8 hz dX8_ifPrice_53 (by decide) wm_5_83 rfl (fun q9 => ?_)
            refine r_bipush (v := 6) hz dX8_ifPrice_56 rfl ?_
            refine r_iload hz dX8_ifPrice_58 4 rfl ?_
            refine r_imul hz dX8_ifPrice_60 ?_
            refine r_iconst (v := 0) hz dX8_ifPrice_61 rfl ?_
            refine r_iadd hz dX8_ifPrice_62 ?_
            refine r_iald hz dX8_ifPrice_63 ?_
            refine r_aload_n hz dX8_ifPrice_64 0 rfl ?_
            refine r_getR (j := 27) cl8 hz dX8_ifPrice_65 (by decide) wm_5_83 rfl (fun q10 => ?_)
            refine r_bipush (v := 6) hz dX8_ifPrice_68 rfl ?_
            refine r_iload hz dX8_ifPrice_70 4 rfl ?_
            refine r_imul hz dX8_ifPrice_72 ?_
            refine r_iconst (v := 2) hz dX8_ifPrice_73 rfl ?_
            refine r_iadd hz dX8_ifPrice_74 ?_
            refine r_iald hz dX8_ifPrice_75 ?_
            refine r_isub hz dX8_ifPrice_76 ?_
            exact r_iret hz hq dX8_ifPrice_77 (Nat.le_of_ble_eq_true rfl) (Nat.le_of_ble_eq_true rfl)
          · refine r_iconst (v := -1) hz dX8_ifPrice_42 rfl ?_
            exact r_iret hz hq dX8_ifPrice_43 (Nat.le_of_ble_eq_true rfl) (Nat.le_of_ble_eq_true rfl)
  exact key x M' h ⟨rfl, rfl⟩
theorem dX8_needs_0 : decode cX8_needs 0 = .ok (.aload_n 0, 1) := by decide +kernel
theorem dX8_needs_1 : decode cX8_needs 1 = .ok (.iconst 0, 1) := by decide +kernel
theorem dX8_needs_2 : decode cX8_needs 2 = .ok (.putfield 46, 3) := by decide +kernel
theorem dX8_needs_5 : decode cX8_needs 5 = .ok (.aload_n 0, 1) := by decide +kernel
theorem dX8_needs_6 : decode cX8_needs 6 = .ok (.iload_n 1, 1) := by decide +kernel
theorem dX8_needs_7 : decode cX8_needs 7 = .ok (.iload_n 2, 1) := by decide +kernel
theorem dX8_needs_8 : decode cX8_needs 8 = .ok (.invokevirtual 317, 3) := by decide +kernel
theorem dX8_needs_11 : decode cX8_needs 11 = .ok (.ifCond .eq 13, 3) := by decide +kernel
theorem dX8_needs_14 : decode cX8_needs 14 = .ok (.aload_n 0, 1) := by decide +kernel
theorem dX8_needs_15 : decode cX8_needs 15 = .ok (.iload_n 1, 1) := by decide +kernel
theorem dX8_needs_16 : decode cX8_needs 16 = .ok (.iconst 4, 1) := by decide +kernel
theorem dX8_needs_17 : decode cX8_needs 17 = .ok (.invokevirtual 225, 3) := by decide +kernel
theorem dX8_needs_20 : decode cX8_needs 20 = .ok (.iconst 1, 1) := by decide +kernel
theorem dX8_needs_21 : decode cX8_needs 21 = .ok (.if_icmp .eq 5, 3) := by decide +kernel
theorem dX8_needs_24 : decode cX8_needs 24 = .ok (.iconst (-1), 1) := by decide +kernel
theorem dX8_needs_25 : decode cX8_needs 25 = .ok (.ireturn, 1) := by decide +kernel
theorem dX8_needs_26 : decode cX8_needs 26 = .ok (.iconst 0, 1) := by decide +kernel
theorem dX8_needs_27 : decode cX8_needs 27 = .ok (.istore_n 3, 1) := by decide +kernel
theorem dX8_needs_28 : decode cX8_needs 28 = .ok (.iload_n 3, 1) := by decide +kernel
theorem dX8_needs_29 : decode cX8_needs 29 = .ok (.ldc 170, 2) := by decide +kernel
theorem dX8_needs_31 : decode cX8_needs 31 = .ok (.if_icmp .gt 44, 3) := by decide +kernel
theorem dX8_needs_34 : decode cX8_needs 34 = .ok (.aload_n 0, 1) := by decide +kernel
theorem dX8_needs_35 : decode cX8_needs 35 = .ok (.iload_n 1, 1) := by decide +kernel
theorem dX8_needs_36 : decode cX8_needs 36 = .ok (.iconst 0, 1) := by decide +kernel
theorem dX8_needs_37 : decode cX8_needs 37 = .ok (.iconst 0, 1) := by decide +kernel
theorem dX8_needs_38 : decode cX8_needs 38 = .ok (.iload_n 3, 1) := by decide +kernel
theorem dX8_needs_39 : decode cX8_needs 39 = .ok (.invokevirtual 327, 3) := by decide +kernel
theorem dX8_needs_42 : decode cX8_needs 42 = .ok (.aload_n 0, 1) := by decide +kernel
theorem dX8_needs_43 : decode cX8_needs 43 = .ok (.getfield 36, 3) := by decide +kernel
theorem dX8_needs_46 : decode cX8_needs 46 = .ok (.bipush 6, 2) := by decide +kernel
theorem dX8_needs_48 : decode cX8_needs 48 = .ok (.iload_n 2, 1) := by decide +kernel
theorem dX8_needs_49 : decode cX8_needs 49 = .ok (.imul, 1) := by decide +kernel
theorem dX8_needs_50 : decode cX8_needs 50 = .ok (.iconst 0, 1) := by decide +kernel
theorem dX8_needs_51 : decode cX8_needs 51 = .ok (.iadd, 1) := by decide +kernel
theorem dX8_needs_52 : decode cX8_needs 52 = .ok (.iaload, 1) := by decide +kernel
theorem dX8_needs_53 : decode cX8_needs 53 = .ok (.aload_n 0, 1) := by decide +kernel
theorem dX8_needs_54 : decode cX8_needs 54 = .ok (.getfield 36, 3) := by decide +kernel
theorem dX8_needs_57 : decode cX8_needs 57 = .ok (.bipush 6, 2) := by decide +kernel
theorem dX8_needs_59 : decode cX8_needs 59 = .ok (.iload_n 2, 1) := by decide +kernel
theorem dX8_needs_60 : decode cX8_needs 60 = .ok (.imul, 1) := by decide +kernel
theorem dX8_needs_61 : decode cX8_needs 61 = .ok (.iconst 2, 1) := by decide +kernel
theorem dX8_needs_62 : decode cX8_needs 62 = .ok (.iadd, 1) := by decide +kernel
theorem dX8_needs_63 : decode cX8_needs 63 = .ok (.iaload, 1) := by decide +kernel
theorem dX8_needs_64 : decode cX8_needs 64 = .ok (.if_icmp .ne 5, 3) := by decide +kernel
theorem dX8_needs_67 : decode cX8_needs 67 = .ok (.iload_n 3, 1) := by decide +kernel
theorem dX8_needs_68 : decode cX8_needs 68 = .ok (.ireturn, 1) := by decide +kernel
theorem dX8_needs_69 : decode cX8_needs 69 = .ok (.iinc 3 1, 3) := by decide +kernel
theorem dX8_needs_72 : decode cX8_needs 72 = .ok (.goto (-44), 3) := by decide +kernel
theorem dX8_needs_75 : decode cX8_needs 75 = .ok (.bipush (-2), 2) := by decide +kernel
theorem dX8_needs_77 : decode cX8_needs 77 = .ok (.ireturn, 1) := by decide +kernel
abbrev rX8_needs : Room := { frames := 4, cells := 0, slots := 0, locals := 90 }
theorem cal_X8_needs : CalOk yX8_needs cX8_needs 4 (some .int) 2 := ⟨wm_7_58, wm_1_9, by decide, by decide, by decide +kernel⟩
def f_X8_needs_28 : Nat → Nat → Int32 → Int32 → Int32 → Mm → Option (Int32 × Mm)
  | 0, _, _, _, _, _ => none
  | n + 1, x0, x1, x2, x3, M =>
    (if (99999 : Int32) < x3 then
      some ((-2 : Int32), M)
    else
      ck (gK M x0 = 8) (bd (f_X8_tells x0 x1 (0 : Int32) (0 : Int32) x3 M) fun _ M1 =>
      ck (gK M1 x0 = 8) (bR (gR M1 x0 27) fun q2 => ck (gK M1 q2 = 10 ∧ inb (((6 : Int32) * x2) + (0 : Int32)) (gN M1 q2)) (ck (gK M1 x0 = 8) (bR (gR M1 x0 27) fun q3 => ck (gK M1 q3 = 10 ∧ inb (((6 : Int32) * x2) + (2 : Int32)) (gN M1 q3)) ((if ¬ (gI M1 q2 ((((6 : Int32) * x2) + (0 : Int32))).toNatClampNeg) = (gI M1 q3 ((((6 : Int32) * x2) + (2 : Int32))).toNatClampNeg) then
        f_X8_needs_28 n x0 x1 x2 (x3 + (1 : Int32)) M1
      else
        some (x3, M1))))))))
set_option maxRecDepth 20000 in
set_option maxHeartbeats 4000000 in
theorem s_X8_needs_28 {z : Zt} {K : Int32 → Mm → Prop} (hz : Good z RX8 cX8_needs 4 rX8_needs (some .int)) (hq : Ret z zI K) : ∀ (n : Nat) (x0 : Nat) (x1 : Int32) (x2 : Int32) (x3 : Int32) (M : Mm), Sim z 28 [(0, .ref x0), (1, .int x1), (2, .int x2), (3, .int x3)] [] M 0 0 (f_X8_needs_28 n x0 x1 x2 x3 M) K := by
  intro n
  induction n with
  | zero => exact fun _ _ _ _ _ => r_none
  | succ n ih =>
    intro x0 x1 x2 x3 M
    unfold f_X8_needs_28
    refine r_iload_n hz dX8_needs_28 3 rfl ?_
    refine r_ldc (v := 99999) hz dX8_needs_29 wm_6_30 ?_
    refine r_icmp_gt (tgt := 75) hz dX8_needs_31 rfl ?_ ?_
    · refine r_bipush (v := -2) hz dX8_needs_75 rfl ?_
      exact r_iret hz hq dX8_needs_77 (Nat.le_of_ble_eq_true rfl) (Nat.le_of_ble_eq_true rfl)
    · refine r_aload_n hz dX8_needs_34 0 rfl ?_
      refine r_iload_n hz dX8_needs_35 1 rfl ?_
      refine r_iconst (v := 0) hz dX8_needs_36 rfl ?_
      refine r_iconst (v := 0) hz dX8_needs_37 rfl ?_
      refine r_iload_n hz dX8_needs_38 3 rfl ?_
      refine r_callVv (As := fun _ => [.int x1, .int (0 : Int32), .int (0 : Int32), .int x3]) cl8 hz (fun _ _ h => t_X8_tells _ _ _ _ _ _ _ _ h) cal_X8_tells dX8_needs_39 wm_6_216 wm_6_218 wm_p_83 rfl rfl (Nat.le_of_ble_eq_true rfl) ⟨(Nat.le_of_ble_eq_true rfl), (Nat.le_of_ble_eq_true rfl)⟩ ⟨(Nat.le_of_ble_eq_true rfl), (Nat.le_of_ble_eq_true rfl)⟩ (fun _ M1 => ?_)
      refine r_aload_n hz dX8_needs_42 0 rfl ?_
      refine r_getR (j := 27) cl8 hz dX8_needs_43 (by decide) wm_5_83 rfl (fun q2 => ?_)
      refine r_bipush (v := 6) hz dX8_needs_46 rfl ?_
      refine r_iload_n hz dX8_needs_48 2 rfl ?_
      refine r_imul hz dX8_needs_49 ?_
      refine r_iconst (v := 0) hz dX8_needs_50 rfl ?_
      refine r_iadd hz dX8_needs_51 ?_
      refine r_iald hz dX8_needs_52 ?_
      refine r_aload_n hz dX8_needs_53 0 rfl ?_
      refine r_getR (j := 27) cl8 hz dX8_needs_54 (by decide) wm_5_83 rfl (fun q3 => ?_)
      refine r_bipush (v := 6) hz dX8_needs_57 rfl ?_
      refine r_iload_n hz dX8_needs_59 2 rfl ?_
      refine r_imul hz dX8_needs_60 ?_
      refine r_iconst (v := 2) hz dX8_needs_61 rfl ?_
      refine r_iadd hz dX8_needs_62 ?_
      refine r_iald hz dX8_needs_63 ?_
      refine r_icmp_ne (tgt := 69) hz dX8_needs_64 rfl ?_ ?_
      · refine r_iinc (v := (x3 + (1 : Int32))) (lv' := [(3, .int (x3 + (1 : Int32))), (0, .ref x0), (1, .int x1), (2, .int x2)]) hz dX8_needs_69 3 rfl rfl (by decide) rfl ?_
        refine r_goto (tgt := 28) hz dX8_needs_72 rfl ?_
        refine r_sub [1, 2, 3, 0] rfl ?_
        exact ih x0 x1 x2 (x3 + (1 : Int32)) M1
      · refine r_iload_n hz dX8_needs_67 3 rfl ?_
        exact r_iret hz hq dX8_needs_68 (Nat.le_of_ble_eq_true rfl) (Nat.le_of_ble_eq_true rfl)
def f_X8_needs (p0 : Nat) (p1 : Int32) (p2 : Int32) (M : Mm) : Option (Int32 × Mm) :=
  ck (gK M p0 = 8) (nm (sI M p0 0 (0 : Int32)) fun M1 =>
  ck (gK M1 p0 = 8) (bd (f_X8_isToCome p0 p1 p2 M1) fun v3 M2 =>
  (if v3 = 0 then
    some ((-1 : Int32), M2)
  else
    ck (gK M2 p0 = 8) (bd (f_X8_loanOf p0 p1 (4 : Int32) M2) fun v5 M4 =>
    (if v5 = (1 : Int32) then
      f_X8_needs_28 FU p0 p1 p2 (0 : Int32) M4
    else
      some ((-1 : Int32), M4))))))
set_option maxRecDepth 20000 in
set_option maxHeartbeats 4000000 in
theorem t_X8_needs (p0 : Nat) (p1 : Int32) (p2 : Int32) (M : Mm) (x : Int32) (M' : Mm) (h : f_X8_needs p0 p1 p2 M = some (x, M')) : Ctr yX8_needs cX8_needs 4 (some .int) rX8_needs (fun _ => [.ref p0, .int p1, .int p2]) M (zI x) M' := by
  refine ctr_of (plainFor_of_name (by decide)) (fun _ => Nat.le_of_ble_eq_true rfl) (fun z hz hin hq => ?_)
  have key : Sim z 0 [(0, .ref p0), (1, .int p1), (2, .int p2)] [] M 0 0 (f_X8_needs p0 p1 p2 M) (fun a b => a = x ∧ b = M') := by
    have hq : Ret z zI (fun a b => a = x ∧ b = M') := fun a b e => by rw [e.1, e.2]; exact hq
    unfold f_X8_needs
    refine r_aload_n hz dX8_needs_0 0 rfl ?_
    refine r_iconst (v := 0) hz dX8_needs_1 rfl ?_
    refine r_putI (j := 0) cl8 hz dX8_needs_2 (by decide) wm_5_56 (Or.inl rfl) rfl rfl rfl ?_
    refine r_nmM (fun M1 => ?_)
    refine r_aload_n hz dX8_needs_5 0 rfl ?_
    refine r_iload_n hz dX8_needs_6 1 rfl ?_
    refine r_iload_n hz dX8_needs_7 2 rfl ?_
    refine r_callVi (As := fun _ => [.int p1, .int p2]) cl8 hz (fun _ _ h => t_X8_isToCome _ _ _ _ _ _ h) cal_X8_isToCome dX8_needs_8 wm_6_186 wm_6_188 wm_p_81 rfl rfl (Nat.le_of_ble_eq_true rfl) ⟨(Nat.le_of_ble_eq_true rfl), (Nat.le_of_ble_eq_true rfl)⟩ ⟨(Nat.le_of_ble_eq_true rfl), (Nat.le_of_ble_eq_true rfl)⟩ (fun v3 M2 => ?_)
    refine r_if_eq (tgt := 24) hz dX8_needs_11 rfl ?_ ?_
    · refine r_iconst (v := -1) hz dX8_needs_24 rfl ?_
      exact r_iret hz hq dX8_needs_25 (Nat.le_of_ble_eq_true rfl) (Nat.le_of_ble_eq_true rfl)
    · refine r_aload_n hz dX8_needs_14 0 rfl ?_
      refine r_iload_n hz dX8_needs_15 1 rfl ?_
      refine r_iconst (v := 4) hz dX8_needs_16 rfl ?_
      refine r_callVi (As := fun _ => [.int p1, .int (4 : Int32)]) cl8 hz (fun _ _ h => t_X8_loanOf _ _ _ _ _ _ h) cal_X8_loanOf dX8_needs_17 wm_6_68 wm_6_70 wm_p_66 rfl rfl (Nat.le_of_ble_eq_true rfl) ⟨(Nat.le_of_ble_eq_true rfl), (Nat.le_of_ble_eq_true rfl)⟩ ⟨(Nat.le_of_ble_eq_true rfl), (Nat.le_of_ble_eq_true rfl)⟩ (fun v5 M4 => ?_)
      refine r_iconst (v := 1) hz dX8_needs_20 rfl ?_
      refine r_icmp_eq (tgt := 26) hz dX8_needs_21 rfl ?_ ?_
      · refine r_iconst (v := 0) hz dX8_needs_26 rfl ?_
        refine r_istore_n (lv' := [(3, .int (0 : Int32)), (0, .ref p0), (1, .int p1), (2, .int p2)]) hz dX8_needs_27 (by decide) rfl ?_
        refine r_sub [1, 2, 3, 0] rfl ?_
        exact s_X8_needs_28 hz hq FU p0 p1 p2 (0 : Int32) M4
      · refine r_iconst (v := -1) hz dX8_needs_24 rfl ?_
        exact r_iret hz hq dX8_needs_25 (Nat.le_of_ble_eq_true rfl) (Nat.le_of_ble_eq_true rfl)
  exact key x M' h ⟨rfl, rfl⟩
theorem dX8_isPassed_0 : decode cX8_isPassed 0 = .ok (.aload_n 0, 1) := by decide +kernel
theorem dX8_isPassed_1 : decode cX8_isPassed 1 = .ok (.iload_n 1, 1) := by decide +kernel
theorem dX8_isPassed_2 : decode cX8_isPassed 2 = .ok (.iload_n 2, 1) := by decide +kernel
theorem dX8_isPassed_3 : decode cX8_isPassed 3 = .ok (.invokevirtual 252, 3) := by decide +kernel
theorem dX8_isPassed_6 : decode cX8_isPassed 6 = .ok (.ifCond .eq 19, 3) := by decide +kernel
theorem dX8_isPassed_9 : decode cX8_isPassed 9 = .ok (.iload_n 2, 1) := by decide +kernel
theorem dX8_isPassed_10 : decode cX8_isPassed 10 = .ok (.aload_n 0, 1) := by decide +kernel
theorem dX8_isPassed_11 : decode cX8_isPassed 11 = .ok (.getfield 20, 3) := by decide +kernel
theorem dX8_isPassed_14 : decode cX8_isPassed 14 = .ok (.sipush 1206, 3) := by decide +kernel
theorem dX8_isPassed_17 : decode cX8_isPassed 17 = .ok (.iaload, 1) := by decide +kernel
theorem dX8_isPassed_18 : decode cX8_isPassed 18 = .ok (.if_icmp .gt 7, 3) := by decide +kernel
theorem dX8_isPassed_21 : decode cX8_isPassed 21 = .ok (.iconst 1, 1) := by decide +kernel
theorem dX8_isPassed_22 : decode cX8_isPassed 22 = .ok (.goto 4, 3) := by decide +kernel
theorem dX8_isPassed_25 : decode cX8_isPassed 25 = .ok (.iconst 0, 1) := by decide +kernel
theorem dX8_isPassed_26 : decode cX8_isPassed 26 = .ok (.ireturn, 1) := by decide +kernel
abbrev rX8_isPassed : Room := { frames := 3, cells := 0, slots := 0, locals := 68 }
theorem cal_X8_isPassed : CalOk yX8_isPassed cX8_isPassed 3 (some .boolean) 2 := ⟨wm_7_66, wm_1_9, by decide, by decide, by decide +kernel⟩
def f_X8_isPassed (p0 : Nat) (p1 : Int32) (p2 : Int32) (M : Mm) : Option (Int32 × Mm) :=
  ck (gK M p0 = 8) (bd (f_X8_isYear p0 p1 p2 M) fun v2 M1 =>
  (if v2 = 0 then
    some ((0 : Int32), M1)
  else
    ck (gK M1 p0 = 8) (bR (gR M1 p0 17) fun q3 => ck (gK M1 q3 = 10 ∧ inb (1206 : Int32) (gN M1 q3)) ((if (gI M1 q3 ((1206 : Int32)).toNatClampNeg) < p2 then
      some ((0 : Int32), M1)
    else
      some ((1 : Int32), M1))))))
set_option maxRecDepth 20000 in
set_option maxHeartbeats 4000000 in
theorem t_X8_isPassed (p0 : Nat) (p1 : Int32) (p2 : Int32) (M : Mm) (x : Int32) (M' : Mm) (h : f_X8_isPassed p0 p1 p2 M = some (x, M')) : Ctr yX8_isPassed cX8_isPassed 3 (some .boolean) rX8_isPassed (fun _ => [.ref p0, .int p1, .int p2]) M (zI x) M' := by
  refine ctr_of (plainFor_of_name (by decide)) (fun _ => Nat.le_of_ble_eq_true rfl) (fun z hz hin hq => ?_)
  have key : Sim z 0 [(0, .ref p0), (1, .int p1), (2, .int p2)] [] M 0 0 (f_X8_isPassed p0 p1 p2 M) (fun a b => a = x ∧ b = M') := by
    have hq : Ret z zI (fun a b => a = x ∧ b = M') := fun a b e => by rw [e.1, e.2]; exact hq
    unfold f_X8_isPassed
    refine r_aload_n hz dX8_isPassed_0 0 rfl ?_
    refine r_iload_n hz dX8_isPassed_1 1 rfl ?_
    refine r_iload_n hz dX8_isPassed_2 2 rfl ?_
    refine r_callVi (As := fun _ => [.int p1, .int p2]) cl8 hz (fun _ _ h => t_X8_isYear _ _ _ _ _ _ h) cal_X8_isYear dX8_isPassed_3 wm_6_113 wm_6_115 wm_p_70 rfl rfl (Nat.le_of_ble_eq_true rfl) ⟨(Nat.le_of_ble_eq_true rfl), (Nat.le_of_ble_eq_true rfl)⟩ ⟨(Nat.le_of_ble_eq_true rfl), (Nat.le_of_ble_eq_true rfl)⟩ (fun v2 M1 => ?_)
    refine r_if_eq (tgt := 25) hz dX8_isPassed_6 rfl ?_ ?_
    · refine r_iconst (v := 0) hz dX8_isPassed_25 rfl ?_
      exact r_zret hz hq dX8_isPassed_26 (Or.inl rfl) (Nat.le_of_ble_eq_true rfl) (Nat.le_of_ble_eq_true rfl)
    · refine r_iload_n hz dX8_isPassed_9 2 rfl ?_
      refine r_aload_n hz dX8_isPassed_10 0 rfl ?_
      refine r_getR (j := 17) cl8 hz dX8_isPassed_11 (by decide) wm_5_73 rfl (fun q3 => ?_)
      refine r_sipush (v := 1206) hz dX8_isPassed_14 rfl ?_
      refine r_iald hz dX8_isPassed_17 ?_
      refine r_icmp_gt (tgt := 25) hz dX8_isPassed_18 rfl ?_ ?_
      · refine r_iconst (v := 0) hz dX8_isPassed_25 rfl ?_
        exact r_zret hz hq dX8_isPassed_26 (Or.inl rfl) (Nat.le_of_ble_eq_true rfl) (Nat.le_of_ble_eq_true rfl)
      · refine r_iconst (v := 1) hz dX8_isPassed_21 rfl ?_
        refine r_goto (tgt := 26) hz dX8_isPassed_22 rfl ?_
        exact r_zret hz hq dX8_isPassed_26 (Or.inr rfl) (Nat.le_of_ble_eq_true rfl) (Nat.le_of_ble_eq_true rfl)
  exact key x M' h ⟨rfl, rfl⟩
theorem dX8_inLot_0 : decode cX8_inLot 0 = .ok (.iconst 1, 1) := by decide +kernel
theorem dX8_inLot_1 : decode cX8_inLot 1 = .ok (.istore 4, 2) := by decide +kernel
theorem dX8_inLot_3 : decode cX8_inLot 3 = .ok (.iload 4, 2) := by decide +kernel
theorem dX8_inLot_5 : decode cX8_inLot 5 = .ok (.aload_n 0, 1) := by decide +kernel
theorem dX8_inLot_6 : decode cX8_inLot 6 = .ok (.iload_n 1, 1) := by decide +kernel
theorem dX8_inLot_7 : decode cX8_inLot 7 = .ok (.iconst 0, 1) := by decide +kernel
theorem dX8_inLot_8 : decode cX8_inLot 8 = .ok (.invokevirtual 225, 3) := by decide +kernel
theorem dX8_inLot_11 : decode cX8_inLot 11 = .ok (.if_icmp .gt 50, 3) := by decide +kernel
theorem dX8_inLot_14 : decode cX8_inLot 14 = .ok (.aload_n 0, 1) := by decide +kernel
theorem dX8_inLot_15 : decode cX8_inLot 15 = .ok (.getfield 20, 3) := by decide +kernel
theorem dX8_inLot_18 : decode cX8_inLot 18 = .ok (.sipush 480, 3) := by decide +kernel
theorem dX8_inLot_21 : decode cX8_inLot 21 = .ok (.iload_n 1, 1) := by decide +kernel
theorem dX8_inLot_22 : decode cX8_inLot 22 = .ok (.iload 4, 2) := by decide +kernel
theorem dX8_inLot_24 : decode cX8_inLot 24 = .ok (.invokestatic 229, 3) := by decide +kernel
theorem dX8_inLot_27 : decode cX8_inLot 27 = .ok (.iadd, 1) := by decide +kernel
theorem dX8_inLot_28 : decode cX8_inLot 28 = .ok (.iaload, 1) := by decide +kernel
theorem dX8_inLot_29 : decode cX8_inLot 29 = .ok (.iload_n 2, 1) := by decide +kernel
theorem dX8_inLot_30 : decode cX8_inLot 30 = .ok (.if_icmp .ne 25, 3) := by decide +kernel
theorem dX8_inLot_33 : decode cX8_inLot 33 = .ok (.aload_n 0, 1) := by decide +kernel
theorem dX8_inLot_34 : decode cX8_inLot 34 = .ok (.getfield 20, 3) := by decide +kernel
theorem dX8_inLot_37 : decode cX8_inLot 37 = .ok (.sipush 720, 3) := by decide +kernel
theorem dX8_inLot_40 : decode cX8_inLot 40 = .ok (.iload_n 1, 1) := by decide +kernel
theorem dX8_inLot_41 : decode cX8_inLot 41 = .ok (.iload 4, 2) := by decide +kernel
theorem dX8_inLot_43 : decode cX8_inLot 43 = .ok (.invokestatic 229, 3) := by decide +kernel
theorem dX8_inLot_46 : decode cX8_inLot 46 = .ok (.iadd, 1) := by decide +kernel
theorem dX8_inLot_47 : decode cX8_inLot 47 = .ok (.iaload, 1) := by decide +kernel
theorem dX8_inLot_48 : decode cX8_inLot 48 = .ok (.iload_n 3, 1) := by decide +kernel
theorem dX8_inLot_49 : decode cX8_inLot 49 = .ok (.if_icmp .ne 6, 3) := by decide +kernel
theorem dX8_inLot_52 : decode cX8_inLot 52 = .ok (.iload 4, 2) := by decide +kernel
theorem dX8_inLot_54 : decode cX8_inLot 54 = .ok (.ireturn, 1) := by decide +kernel
theorem dX8_inLot_55 : decode cX8_inLot 55 = .ok (.iinc 4 1, 3) := by decide +kernel
theorem dX8_inLot_58 : decode cX8_inLot 58 = .ok (.goto (-55), 3) := by decide +kernel
theorem dX8_inLot_61 : decode cX8_inLot 61 = .ok (.iconst (-1), 1) := by decide +kernel
theorem dX8_inLot_62 : decode cX8_inLot 62 = .ok (.ireturn, 1) := by decide +kernel
abbrev rX8_inLot : Room := { frames := 1, cells := 0, slots := 0, locals := 22 }
theorem cal_X8_inLot : CalOk yX8_inLot cX8_inLot 5 (some .int) 3 := ⟨wm_7_74, wm_1_9, by decide, by decide, by decide +kernel⟩
def f_X8_inLot_3 : Nat → Nat → Int32 → Int32 → Int32 → Int32 → Mm → Option (Int32 × Mm)
  | 0, _, _, _, _, _, _ => none
  | n + 1, x0, x1, x2, x3, x4, M =>
    ck (gK M x0 = 8) (bd (f_X8_loanOf x0 x1 (0 : Int32) M) fun v2 M1 =>
    (if v2 < x4 then
      some ((-1 : Int32), M1)
    else
      ck (gK M1 x0 = 8) (bR (gR M1 x0 17) fun q3 => bd (f_X8_bondAt x1 x4 M1) fun v5 M4 =>
      ck (gK M4 q3 = 10 ∧ inb ((480 : Int32) + v5) (gN M4 q3)) ((if ¬ (gI M4 q3 (((480 : Int32) + v5)).toNatClampNeg) = x2 then
        f_X8_inLot_3 n x0 x1 x2 x3 (x4 + (1 : Int32)) M4
      else
        ck (gK M4 x0 = 8) (bR (gR M4 x0 17) fun q7 => bd (f_X8_bondAt x1 x4 M4) fun v9 M8 =>
        ck (gK M8 q7 = 10 ∧ inb ((720 : Int32) + v9) (gN M8 q7)) ((if ¬ (gI M8 q7 (((720 : Int32) + v9)).toNatClampNeg) = x3 then
          f_X8_inLot_3 n x0 x1 x2 x3 (x4 + (1 : Int32)) M8
        else
          some (x4, M8)))))))))
set_option maxRecDepth 20000 in
set_option maxHeartbeats 4000000 in
theorem s_X8_inLot_3 {z : Zt} {K : Int32 → Mm → Prop} (hz : Good z RX8 cX8_inLot 5 rX8_inLot (some .int)) (hq : Ret z zI K) : ∀ (n : Nat) (x0 : Nat) (x1 : Int32) (x2 : Int32) (x3 : Int32) (x4 : Int32) (M : Mm), Sim z 3 [(0, .ref x0), (1, .int x1), (2, .int x2), (3, .int x3), (4, .int x4)] [] M 0 0 (f_X8_inLot_3 n x0 x1 x2 x3 x4 M) K := by
  intro n
  induction n with
  | zero => exact fun _ _ _ _ _ _ => r_none
  | succ n ih =>
    intro x0 x1 x2 x3 x4 M
    unfold f_X8_inLot_3
    refine r_iload hz dX8_inLot_3 4 rfl ?_
    refine r_aload_n hz dX8_inLot_5 0 rfl ?_
    refine r_iload_n hz dX8_inLot_6 1 rfl ?_
    refine r_iconst (v := 0) hz dX8_inLot_7 rfl ?_
    refine r_callVi (As := fun _ => [.int x1, .int (0 : Int32)]) cl8 hz (fun _ _ h => t_X8_loanOf _ _ _ _ _ _ h) cal_X8_loanOf dX8_inLot_8 wm_6_68 wm_6_70 wm_p_66 rfl rfl (Nat.le_of_ble_eq_true rfl) ⟨(Nat.le_of_ble_eq_true rfl), (Nat.le_of_ble_eq_true rfl)⟩ ⟨(Nat.le_of_ble_eq_true rfl), (Nat.le_of_ble_eq_true rfl)⟩ (fun v2 M1 => ?_)
    refine r_icmp_gt (tgt := 61) hz dX8_inLot_11 rfl ?_ ?_
    · refine r_iconst (v := -1) hz dX8_inLot_61 rfl ?_
      exact r_iret hz hq dX8_inLot_62 (Nat.le_of_ble_eq_true rfl) (Nat.le_of_ble_eq_true rfl)
    · refine r_aload_n hz dX8_inLot_14 0 rfl ?_
      refine r_getR (j := 17) cl8 hz dX8_inLot_15 (by decide) wm_5_73 rfl (fun q3 => ?_)
      refine r_sipush (v := 480) hz dX8_inLot_18 rfl ?_
      refine r_iload_n hz dX8_inLot_21 1 rfl ?_
      refine r_iload hz dX8_inLot_22 4 rfl ?_
      refine r_callSi (As := fun _ => [.int x1, .int x4]) hz (fun _ _ h => t_X8_bondAt _ _ _ _ _ h) cal_X8_bondAt dX8_inLot_24 wm_6_72 wm_6_73 rfl rfl (Nat.le_of_ble_eq_true rfl) ⟨(Nat.le_of_ble_eq_true rfl), (Nat.le_of_ble_eq_true rfl)⟩ ⟨(Nat.le_of_ble_eq_true rfl), (Nat.le_of_ble_eq_true rfl)⟩ (fun v5 M4 => ?_)
      refine r_iadd hz dX8_inLot_27 ?_
      refine r_iald hz dX8_inLot_28 ?_
      refine r_iload_n hz dX8_inLot_29 2 rfl ?_
      refine r_icmp_ne (tgt := 55) hz dX8_inLot_30 rfl ?_ ?_
      · refine r_iinc (v := (x4 + (1 : Int32))) (lv' := [(4, .int (x4 + (1 : Int32))), (0, .ref x0), (1, .int x1), (2, .int x2), (3, .int x3)]) hz dX8_inLot_55 4 rfl rfl (by decide) rfl ?_
        refine r_goto (tgt := 3) hz dX8_inLot_58 rfl ?_
        refine r_sub [1, 2, 3, 4, 0] rfl ?_
        exact ih x0 x1 x2 x3 (x4 + (1 : Int32)) M4
      · refine r_aload_n hz dX8_inLot_33 0 rfl ?_
        refine r_getR (j := 17) cl8 hz dX8_inLot_34 (by decide) wm_5_73 rfl (fun q7 => ?_)
        refine r_sipush (v := 720) hz dX8_inLot_37 rfl ?_
        refine r_iload_n hz dX8_inLot_40 1 rfl ?_
        refine r_iload hz dX8_inLot_41 4 rfl ?_
        refine r_callSi (As := fun _ => [.int x1, .int x4]) hz (fun _ _ h => t_X8_bondAt _ _ _ _ _ h) cal_X8_bondAt dX8_inLot_43 wm_6_72 wm_6_73 rfl rfl (Nat.le_of_ble_eq_true rfl) ⟨(Nat.le_of_ble_eq_true rfl), (Nat.le_of_ble_eq_true rfl)⟩ ⟨(Nat.le_of_ble_eq_true rfl), (Nat.le_of_ble_eq_true rfl)⟩ (fun v9 M8 => ?_)
        refine r_iadd hz dX8_inLot_46 ?_
        refine r_iald hz dX8_inLot_47 ?_
        refine r_iload_n hz dX8_inLot_48 3 rfl ?_
        refine r_icmp_ne (tgt := 55) hz dX8_inLot_49 rfl ?_ ?_
        · refine r_iinc (v := (x4 + (1 : Int32))) (lv' := [(4, .int (x4 + (1 : Int32))), (0, .ref x0), (1, .int x1), (2, .int x2), (3, .int x3)]) hz dX8_inLot_55 4 rfl rfl (by decide) rfl ?_
          refine r_goto (tgt := 3) hz dX8_inLot_58 rfl ?_
          refine r_sub [1, 2, 3, 4, 0] rfl ?_
          exact ih x0 x1 x2 x3 (x4 + (1 : Int32)) M8
        · refine r_iload hz dX8_inLot_52 4 rfl ?_
          exact r_iret hz hq dX8_inLot_54 (Nat.le_of_ble_eq_true rfl) (Nat.le_of_ble_eq_true rfl)
def f_X8_inLot (p0 : Nat) (p1 : Int32) (p2 : Int32) (p3 : Int32) (M : Mm) : Option (Int32 × Mm) :=
  f_X8_inLot_3 FU p0 p1 p2 p3 (1 : Int32) M
set_option maxRecDepth 20000 in
set_option maxHeartbeats 4000000 in
theorem t_X8_inLot (p0 : Nat) (p1 : Int32) (p2 : Int32) (p3 : Int32) (M : Mm) (x : Int32) (M' : Mm) (h : f_X8_inLot p0 p1 p2 p3 M = some (x, M')) : Ctr yX8_inLot cX8_inLot 5 (some .int) rX8_inLot (fun _ => [.ref p0, .int p1, .int p2, .int p3]) M (zI x) M' := by
  refine ctr_of (plainFor_of_name (by decide)) (fun _ => Nat.le_of_ble_eq_true rfl) (fun z hz hin hq => ?_)
  have key : Sim z 0 [(0, .ref p0), (1, .int p1), (2, .int p2), (3, .int p3)] [] M 0 0 (f_X8_inLot p0 p1 p2 p3 M) (fun a b => a = x ∧ b = M') := by
    have hq : Ret z zI (fun a b => a = x ∧ b = M') := fun a b e => by rw [e.1, e.2]; exact hq
    unfold f_X8_inLot
    refine r_iconst (v := 1) hz dX8_inLot_0 rfl ?_
    refine r_istore (lv' := [(4, .int (1 : Int32)), (0, .ref p0), (1, .int p1), (2, .int p2), (3, .int p3)]) hz dX8_inLot_1 (by decide) rfl ?_
    refine r_sub [1, 2, 3, 4, 0] rfl ?_
    exact s_X8_inLot_3 hz hq FU p0 p1 p2 p3 (1 : Int32) M
  exact key x M' h ⟨rfl, rfl⟩
