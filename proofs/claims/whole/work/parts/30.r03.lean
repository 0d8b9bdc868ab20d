theorem dX8_standing_0 : decode cX8_standing 0 = .ok (.aload_n 0, 1) := by decide +kernel
theorem dX8_standing_1 : decode cX8_standing 1 = .ok (.iconst 0, 1) := by decide +kernel
theorem dX8_standing_2 : decode cX8_standing 2 = .ok (.putfield 46, 3) := by decide +kernel
theorem dX8_standing_5 : decode cX8_standing 5 = .ok (.aload_n 0, 1) := by decide +kernel
theorem dX8_standing_6 : decode cX8_standing 6 = .ok (.iload_n 1, 1) := by decide +kernel
theorem dX8_standing_7 : decode cX8_standing 7 = .ok (.iload_n 3, 1) := by decide +kernel
theorem dX8_standing_8 : decode cX8_standing 8 = .ok (.invokevirtual 249, 3) := by decide +kernel
theorem dX8_standing_11 : decode cX8_standing 11 = .ok (.ifCond .eq 16, 3) := by decide +kernel
theorem dX8_standing_14 : decode cX8_standing 14 = .ok (.iload_n 2, 1) := by decide +kernel
theorem dX8_standing_15 : decode cX8_standing 15 = .ok (.iconst (-1), 1) := by decide +kernel
theorem dX8_standing_16 : decode cX8_standing 16 = .ok (.if_icmp .eq 13, 3) := by decide +kernel
theorem dX8_standing_19 : decode cX8_standing 19 = .ok (.aload_n 0, 1) := by decide +kernel
theorem dX8_standing_20 : decode cX8_standing 20 = .ok (.iload_n 2, 1) := by decide +kernel
theorem dX8_standing_21 : decode cX8_standing 21 = .ok (.invokevirtual 244, 3) := by decide +kernel
theorem dX8_standing_24 : decode cX8_standing 24 = .ok (.ifCond .ne 5, 3) := by decide +kernel
theorem dX8_standing_27 : decode cX8_standing 27 = .ok (.iconst (-1), 1) := by decide +kernel
theorem dX8_standing_28 : decode cX8_standing 28 = .ok (.ireturn, 1) := by decide +kernel
theorem dX8_standing_29 : decode cX8_standing 29 = .ok (.iload_n 3, 1) := by decide +kernel
theorem dX8_standing_30 : decode cX8_standing 30 = .ok (.istore 4, 2) := by decide +kernel
theorem dX8_standing_32 : decode cX8_standing 32 = .ok (.iload 4, 2) := by decide +kernel
theorem dX8_standing_34 : decode cX8_standing 34 = .ok (.aload_n 0, 1) := by decide +kernel
theorem dX8_standing_35 : decode cX8_standing 35 = .ok (.iload_n 1, 1) := by decide +kernel
theorem dX8_standing_36 : decode cX8_standing 36 = .ok (.iconst 0, 1) := by decide +kernel
theorem dX8_standing_37 : decode cX8_standing 37 = .ok (.invokevirtual 225, 3) := by decide +kernel
theorem dX8_standing_40 : decode cX8_standing 40 = .ok (.if_icmp .gt 49, 3) := by decide +kernel
theorem dX8_standing_43 : decode cX8_standing 43 = .ok (.iload_n 1, 1) := by decide +kernel
theorem dX8_standing_44 : decode cX8_standing 44 = .ok (.iload 4, 2) := by decide +kernel
theorem dX8_standing_46 : decode cX8_standing 46 = .ok (.invokestatic 229, 3) := by decide +kernel
theorem dX8_standing_49 : decode cX8_standing 49 = .ok (.istore 5, 2) := by decide +kernel
theorem dX8_standing_51 : decode cX8_standing 51 = .ok (.aload_n 0, 1) := by decide +kernel
theorem dX8_standing_52 : decode cX8_standing 52 = .ok (.getfield 20, 3) := by decide +kernel
theorem dX8_standing_55 : decode cX8_standing 55 = .ok (.iconst 0, 1) := by decide +kernel
theorem dX8_standing_56 : decode cX8_standing 56 = .ok (.iload 5, 2) := by decide +kernel
theorem dX8_standing_58 : decode cX8_standing 58 = .ok (.iadd, 1) := by decide +kernel
theorem dX8_standing_59 : decode cX8_standing 59 = .ok (.iaload, 1) := by decide +kernel
theorem dX8_standing_60 : decode cX8_standing 60 = .ok (.ifCond .ne 23, 3) := by decide +kernel
theorem dX8_standing_63 : decode cX8_standing 63 = .ok (.aload_n 0, 1) := by decide +kernel
theorem dX8_standing_64 : decode cX8_standing 64 = .ok (.getfield 20, 3) := by decide +kernel
theorem dX8_standing_67 : decode cX8_standing 67 = .ok (.sipush 240, 3) := by decide +kernel
theorem dX8_standing_70 : decode cX8_standing 70 = .ok (.iload 5, 2) := by decide +kernel
theorem dX8_standing_72 : decode cX8_standing 72 = .ok (.iadd, 1) := by decide +kernel
theorem dX8_standing_73 : decode cX8_standing 73 = .ok (.iaload, 1) := by decide +kernel
theorem dX8_standing_74 : decode cX8_standing 74 = .ok (.iload_n 2, 1) := by decide +kernel
theorem dX8_standing_75 : decode cX8_standing 75 = .ok (.iconst 1, 1) := by decide +kernel
theorem dX8_standing_76 : decode cX8_standing 76 = .ok (.iadd, 1) := by decide +kernel
theorem dX8_standing_77 : decode cX8_standing 77 = .ok (.if_icmp .ne 6, 3) := by decide +kernel
theorem dX8_standing_80 : decode cX8_standing 80 = .ok (.iload 4, 2) := by decide +kernel
theorem dX8_standing_82 : decode cX8_standing 82 = .ok (.ireturn, 1) := by decide +kernel
theorem dX8_standing_83 : decode cX8_standing 83 = .ok (.iinc 4 1, 3) := by decide +kernel
theorem dX8_standing_86 : decode cX8_standing 86 = .ok (.goto (-54), 3) := by decide +kernel
theorem dX8_standing_89 : decode cX8_standing 89 = .ok (.bipush (-2), 2) := by decide +kernel
theorem dX8_standing_91 : decode cX8_standing 91 = .ok (.ireturn, 1) := by decide +kernel
abbrev rX8_standing : Room := { frames := 3, cells := 0, slots := 0, locals := 68 }
theorem cal_X8_standing : CalOk yX8_standing cX8_standing 6 (some .int) 3 := ⟨wm_6_108, wm_1_9, by decide, by decide, by decide +kernel⟩
def f_X8_standing_32 : Nat → Nat → Int32 → Int32 → Int32 → Mm → Option (Int32 × Mm)
  | 0, _, _, _, _, _ => none
  | n + 1, x0, x1, x2, x4, M =>
    ck (gK M x0 = 8) (bd (f_X8_loanOf x0 x1 (0 : Int32) M) fun v2 M1 =>
    (if v2 < x4 then
      some ((-2 : Int32), M1)
    else
      bd (f_X8_bondAt x1 x4 M1) fun v4 M3 =>
      ck (gK M3 x0 = 8) (bR (gR M3 x0 17) fun q5 => ck (gK M3 q5 = 10 ∧ inb ((0 : Int32) + v4) (gN M3 q5)) ((if ¬ (gI M3 q5 (((0 : Int32) + v4)).toNatClampNeg) = 0 then
        f_X8_standing_32 n x0 x1 x2 (x4 + (1 : Int32)) M3
      else
        ck (gK M3 x0 = 8) (bR (gR M3 x0 17) fun q7 => ck (gK M3 q7 = 10 ∧ inb ((240 : Int32) + v4) (gN M3 q7)) ((if ¬ (gI M3 q7 (((240 : Int32) + v4)).toNatClampNeg) = (x2 + (1 : Int32)) then
          f_X8_standing_32 n x0 x1 x2 (x4 + (1 : Int32)) M3
        else
          some (x4, M3)))))))))
set_option maxRecDepth 20000 in
set_option maxHeartbeats 4000000 in
theorem s_X8_standing_32 {z : Zt} {K : Int32 → Mm → Prop} (hz : Good z RX8 cX8_standing 6 rX8_standing (some .int)) (hq : Ret z zI K) : ∀ (n : Nat) (x0 : Nat) (x1 : Int32) (x2 : Int32) (x4 : Int32) (M : Mm), Sim z 32 [(0, .ref x0), (1, .int x1), (2, .int x2), (4, .int x4)] [] M 0 0 (f_X8_standing_32 n x0 x1 x2 x4 M) K := by
  intro n
  induction n with
  | zero => exact fun _ _ _ _ _ => r_none
  | succ n ih =>
    intro x0 x1 x2 x4 M
    unfold f_X8_standing_32
    refine r_iload hz dX8_standing_32 3 rfl ?_
    refine r_aload_n hz dX8_standing_34 0 rfl ?_
    refine r_iload_n hz dX8_standing_35 1 rfl ?_
    refine r_iconst (v := 0) hz dX8_standing_36 rfl ?_
    refine r_callVi (As := fun _ => [.int x1, .int (0 : Int32)]) cl8 hz (fun _ _ h => t_X8_loanOf _ _ _ _ _ _ h) cal_X8_loanOf dX8_standing_37 wm_6_68 wm_6_70 wm_p_66 rfl rfl (Nat.le_of_ble_eq_true rfl) ⟨(Nat.le_of_ble_eq_true rfl), (Nat.le_of_ble_eq_true rfl)⟩ ⟨(Nat.le_of_ble_eq_true rfl), (Nat.le_of_ble_eq_true rfl)⟩ (fun v2 M1 => ?_)
    refine r_icmp_gt (tgt := 89) hz dX8_standing_40 rfl ?_ ?_
    · refine r_bipush (v := -2) hz dX8_standing_89 rfl ?_
      exact r_iret hz hq dX8_standing_91 (Nat.le_of_ble_eq_true rfl) (Nat.le_of_ble_eq_true rfl)
    · refine r_iload_n hz dX8_standing_43 1 rfl ?_
      refine r_iload hz dX8_standing_44 3 rfl ?_
      refine r_callSi (As := fun _ => [.int x1, .int x4]) hz (fun _ _ h => t_X8_bondAt _ _ _ _ _ h) cal_X8_bondAt dX8_standing_46 wm_6_72 wm_6_73 rfl rfl (Nat.le_of_ble_eq_true rfl) ⟨(Nat.le_of_ble_eq_true rfl), (Nat.le_of_ble_eq_true rfl)⟩ ⟨(Nat.le_of_ble_eq_true rfl), (Nat.le_of_ble_eq_true rfl)⟩ (fun v4 M3 => ?_)
      refine r_istore (lv' := [(5, .int v4), (0, .ref x0), (1, .int x1), (2, .int x2), (4, .int x4)]) hz dX8_standing_49 (by decide) rfl ?_
      refine r_aload_n hz dX8_standing_51 1 rfl ?_
      refine r_getR (j := 17) cl8 hz dX8_standing_52 (by decide) wm_5_73 rfl (fun q5 => ?_)
      refine r_iconst (v := 0) hz dX8_standing_55 rfl ?_
      refine r_iload hz dX8_standing_56 0 rfl ?_
      refine r_iadd hz dX8_standing_58 ?_
      refine r_iald hz dX8_standing_59 ?_
      refine r_if_ne (tgt := 83) hz dX8_standing_60 rfl ?_ ?_
      · refine r_iinc (v := (x4 + (1 : Int32))) (lv' := [(4, .int (x4 + (1 : Int32))), (5, .int v4), (0, .ref x0), (1, .int x1), (2, .int x2)]) hz dX8_standing_83 4 rfl rfl (by decide) rfl ?_
        refine r_goto (tgt := 32) hz dX8_standing_86 rfl ?_
        refine r_sub [2, 3, 4, 0] rfl ?_
        exact ih x0 x1 x2 (x4 + (1 : Int32)) M3
      · refine r_aload_n hz dX8_standing_63 1 rfl ?_
        refine r_getR (j := 17) cl8 hz dX8_standing_64 (by decide) wm_5_73 rfl (fun q7 => ?_)
        refine r_sipush (v := 240) hz dX8_standing_67 rfl ?_
        refine r_iload hz dX8_standing_70 0 rfl ?_
        refine r_iadd hz dX8_standing_72 ?_
        refine r_iald hz dX8_standing_73 ?_
        refine r_iload_n hz dX8_standing_74 3 rfl ?_
        refine r_iconst (v := 1) hz dX8_standing_75 rfl ?_
        refine r_iadd hz dX8_standing_76 ?_
        refine r_icmp_ne (tgt := 83) hz dX8_standing_77 rfl ?_ ?_
        · refine r_iinc (v := (x4 + (1 : Int32))) (lv' := [(4, .int (x4 + (1 : Int32))), (5, .int v4), (0, .ref x0), (1, .int x1), (2, .int x2)]) hz dX8_standing_83 4 rfl rfl (by decide) rfl ?_
          refine r_goto (tgt := 32) hz dX8_standing_86 rfl ?_
          refine r_sub [2, 3, 4, 0] rfl ?_
          exact ih x0 x1 x2 (x4 + (1 : Int32)) M3
        · refine r_iload hz dX8_standing_80 4 rfl ?_
          exact r_iret hz hq dX8_standing_82 (Nat.le_of_ble_eq_true rfl) (Nat.le_of_ble_eq_true rfl)
def f_X8_standing (p0 : Nat) (p1 : Int32) (p2 : Int32) (p3 : Int32) (M : Mm) : Option (Int32 × Mm) :=
  ck (gK M p0 = 8) (nm (sI M p0 0 (0 : Int32)) fun M1 =>
  ck (gK M1 p0 = 8) (bd (f_X8_isBond p0 p1 p3 M1) fun v3 M2 =>
  (if v3 = 0 then
    some ((-1 : Int32), M2)
  else
    (if p2 = (-1 : Int32) then
      f_X8_standing_32 FU p0 p1 p2 p3 M2
    else
      ck (gK M2 p0 = 8) (bd (f_X8_isHolder p0 p2 M2) fun v5 M4 =>
      (if ¬ v5 = 0 then
        f_X8_standing_32 FU p0 p1 p2 p3 M4
      else
        some ((-1 : Int32), M4)))))))
set_option maxRecDepth 20000 in
set_option maxHeartbeats 4000000 in
theorem t_X8_standing (p0 : Nat) (p1 : Int32) (p2 : Int32) (p3 : Int32) (M : Mm) (x : Int32) (M' : Mm) (h : f_X8_standing p0 p1 p2 p3 M = some (x, M')) : Ctr yX8_standing cX8_standing 6 (some .int) rX8_standing (fun _ => [.ref p0, .int p1, .int p2, .int p3]) M (zI x) M' := by
  refine ctr_of (plainFor_of_name (by decide)) (fun _ => Nat.le_of_ble_eq_true rfl) (fun z hz hin hq => ?_)
  have key : Sim z 0 [(0, .ref p0), (1, .int p1), (2, .int p2), (3, .int p3)] [] M 0 0 (f_X8_standing p0 p1 p2 p3 M) (fun a b => a = x ∧ b = M') := by
    have hq : Ret z zI (fun a b => a = x ∧ b = M') := fun a b e => by rw [e.1, e.2]; exact hq
    unfold f_X8_standing
    refine r_aload_n hz dX8_standing_0 0 rfl ?_
    refine r_iconst (v := 0) hz dX8_standing_1 rfl ?_
    refine r_putI (j := 0) cl8 hz dX8_standing_2 (by decide) wm_5_56 (Or.inl rfl) rfl rfl rfl ?_
    refine r_nmM (fun M1 => ?_)
    refine r_aload_n hz dX8_standing_5 0 rfl ?_
    refine r_iload_n hz dX8_standing_6 1 rfl ?_
    refine r_iload_n hz dX8_standing_7 3 rfl ?_
    refine r_callVi (As := fun _ => [.int p1, .int p3]) cl8 hz (fun _ _ h => t_X8_isBond _ _ _ _ _ _ h) cal_X8_isBond dX8_standing_8 wm_6_101 wm_6_103 wm_p_69 rfl rfl (Nat.le_of_ble_eq_true rfl) ⟨(Nat.le_of_ble_eq_true rfl), (Nat.le_of_ble_eq_true rfl)⟩ ⟨(Nat.le_of_ble_eq_true rfl), (Nat.le_of_ble_eq_true rfl)⟩ (fun v3 M2 => ?_)
    refine r_if_eq (tgt := 27) hz dX8_standing_11 rfl ?_ ?_
    · refine r_iconst (v := -1) hz dX8_standing_27 rfl ?_
      exact r_iret hz hq dX8_standing_28 (Nat.le_of_ble_eq_true rfl) (Nat.le_of_ble_eq_true rfl)
    · refine r_iload_n hz dX8_standing_14 2 rfl ?_
      refine r_iconst (v := -1) hz dX8_standing_15 rfl ?_
      refine r_icmp_eq (tgt := 29) hz dX8_standing_16 rfl ?_ ?_
      · refine r_iload_n hz dX8_standing_29 3 rfl ?_
        refine r_istore (lv' := [(4, .int p3), (0, .ref p0), (1, .int p1), (2, .int p2), (3, .int p3)]) hz dX8_standing_30 (by decide) rfl ?_
        refine r_sub [1, 2, 3, 0] rfl ?_
        exact s_X8_standing_32 hz hq FU p0 p1 p2 p3 M2
      · refine r_aload_n hz dX8_standing_19 0 rfl ?_
        refine r_iload_n hz dX8_standing_20 2 rfl ?_
        refine r_callVi (As := fun _ => [.int p2]) cl8 hz (fun _ _ h => t_X8_isHolder _ _ _ _ _ h) cal_X8_isHolder dX8_standing_21 wm_6_88 wm_6_90 wm_p_68 rfl rfl (Nat.le_of_ble_eq_true rfl) ⟨(Nat.le_of_ble_eq_true rfl), (Nat.le_of_ble_eq_true rfl)⟩ ⟨(Nat.le_of_ble_eq_true rfl), (Nat.le_of_ble_eq_true rfl)⟩ (fun v5 M4 => ?_)
        refine r_if_ne (tgt := 29) hz dX8_standing_24 rfl ?_ ?_
        · refine r_iload_n hz dX8_standing_29 3 rfl ?_
          refine r_istore (lv' := [(4, .int p3), (0, .ref p0), (1, .int p1), (2, .int p2), (3, .int p3)]) hz dX8_standing_30 (by decide) rfl ?_
          refine r_sub [1, 2, 3, 0] rfl ?_
          exact s_X8_standing_32 hz hq FU p0 p1 p2 p3 M4
        · refine r_iconst (v := -1) hz dX8_standing_27 rfl ?_
          exact r_iret hz hq dX8_standing_28 (Nat.le_of_ble_eq_true rfl) (Nat.le_of_ble_eq_true rfl)
  exact key x M' h ⟨rfl, rfl⟩
theorem dX8_priceOf_0 : decode cX8_priceOf 0 = .ok (.aload_n 0, 1) := by decide +kernel
theorem dX8_priceOf_1 : decode cX8_priceOf 1 = .ok (.getfield 20, 3) := by decide +kernel
theorem dX8_priceOf_4 : decode cX8_priceOf 4 = .ok (.sipush 1215, 3) := by decide +kernel
theorem dX8_priceOf_7 : decode cX8_priceOf 7 = .ok (.bipush 21, 2) := by decide +kernel
theorem dX8_priceOf_9 : decode cX8_priceOf 9 = .ok (.iload_n 1, 1) := by decide +kernel
theorem dX8_priceOf_10 : decode cX8_priceOf 10 = .ok (.imul, 1) := by decide +kernel
theorem dX8_priceOf_11 : decode cX8_priceOf 11 = .ok (.iadd, 1) := by decide +kernel
theorem dX8_priceOf_12 : decode cX8_priceOf 12 = .ok (.iload_n 2, 1) := by decide +kernel
theorem dX8_priceOf_13 : decode cX8_priceOf 13 = .ok (.iadd, 1) := by decide +kernel
theorem dX8_priceOf_14 : decode cX8_priceOf 14 = .ok (.iaload, 1) := by decide +kernel
theorem dX8_priceOf_15 : decode cX8_priceOf 15 = .ok (.istore_n 3, 1) := by decide +kernel
theorem dX8_priceOf_16 : decode cX8_priceOf 16 = .ok (.iload_n 3, 1) := by decide +kernel
theorem dX8_priceOf_17 : decode cX8_priceOf 17 = .ok (.ifCond .ne 12, 3) := by decide +kernel
theorem dX8_priceOf_20 : decode cX8_priceOf 20 = .ok (.aload_n 0, 1) := by decide +kernel
theorem dX8_priceOf_21 : decode cX8_priceOf 21 = .ok (.iload_n 1, 1) := by decide +kernel
theorem dX8_priceOf_22 : decode cX8_priceOf 22 = .ok (.iconst 1, 1) := by decide +kernel
theorem dX8_priceOf_23 : decode cX8_priceOf 23 = .ok (.invokevirtual 225, 3) := by decide +kernel
theorem dX8_priceOf_26 : decode cX8_priceOf 26 = .ok (.goto 4, 3) := by decide +kernel
theorem dX8_priceOf_29 : decode cX8_priceOf 29 = .ok (.iload_n 3, 1) := by decide +kernel
theorem dX8_priceOf_30 : decode cX8_priceOf 30 = .ok (.ireturn, 1) := by decide +kernel
abbrev rX8_priceOf : Room := { frames := 1, cells := 0, slots := 0, locals := 22 }
theorem cal_X8_priceOf : CalOk yX8_priceOf cX8_priceOf 4 (some .int) 2 := ⟨wm_6_120, wm_1_9, by decide, by decide, by decide +kernel⟩
def f_X8_priceOf (p0 : Nat) (p1 : Int32) (p2 : Int32) (M : Mm) : Option (Int32 × Mm) :=
  ck (gK M p0 = 8) (bR (gR M p0 17) fun q1 => ck (gK M q1 = 10 ∧ inb (((1215 : Int32) + ((21 : Int32) * p1)) + p2) (gN M q1)) (nm (gI M q1 ((((1215 : Int32) + ((21 : Int32) * p1)) + p2)).toNatClampNeg) fun v2 =>
  (if ¬ v2 = 0 then
    some (v2, M)
  else
    ck (gK M p0 = 8) (bd (f_X8_loanOf p0 p1 (1 : Int32) M) fun v4 M3 =>
    some (v4, M3)))))
set_option maxRecDepth 20000 in
set_option maxHeartbeats 4000000 in
theorem t_X8_priceOf (p0 : Nat) (p1 : Int32) (p2 : Int32) (M : Mm) (x : Int32) (M' : Mm) (h : f_X8_priceOf p0 p1 p2 M = some (x, M')) : Ctr yX8_priceOf cX8_priceOf 4 (some .int) rX8_priceOf (fun _ => [.ref p0, .int p1, .int p2]) M (zI x) M' := by
  refine ctr_of (plainFor_of_name (by decide)) (fun _ => Nat.le_of_ble_eq_true rfl) (fun z hz hin hq => ?_)
  have key : Sim z 0 [(0, .ref p0), (1, .int p1), (2, .int p2)] [] M 0 0 (f_X8_priceOf p0 p1 p2 M) (fun a b => a = x ∧ b = M') := by
    have hq : Ret z zI (fun a b => a = x ∧ b = M') := fun a b e => by rw [e.1, e.2]; exact hq
    unfold f_X8_priceOf
    refine r_aload_n hz dX8_priceOf_0 0 rfl ?_
    refine r_getR (j := 17) cl8 hz dX8_priceOf_1 (by decide) wm_5_73 rfl (fun q1 => ?_)
    refine r_sipush (v := 1215) hz dX8_priceOf_4 rfl ?_
    refine r_bipush (v := 21) hz dX8_priceOf_7 rfl ?_
    refine r_iload_n hz dX8_priceOf_9 1 rfl ?_
    refine r_imul hz dX8_priceOf_10 ?_
    refine r_iadd hz dX8_priceOf_11 ?_
    refine r_iload_n hz dX8_priceOf_12 2 rfl ?_
    refine r_iadd hz dX8_priceOf_13 ?_
    refine r_iald hz dX8_priceOf_14 ?_
    refine r_nmi (fun v2 => ?_)
    refine r_istore_n (lv' := [(3, .int v2), (0, .ref p0), (1, .int p1), (2, .int p2)]) hz dX8_priceOf_15 (by decide) rfl ?_
    refine r_iload_n hz dX8_priceOf_16 0 rfl ?_
    refine r_if_ne (tgt := 29) hz dX8_priceOf_17 rfl ?_ ?_
    · refine r_iload_n hz dX8_priceOf_29 0 rfl ?_
      exact r_iret hz hq dX8_priceOf_30 (Nat.le_of_ble_eq_true rfl) (Nat.le_of_ble_eq_true rfl)
    · refine r_aload_n hz dX8_priceOf_20 1 rfl ?_
      refine r_iload_n hz dX8_priceOf_21 2 rfl ?_
      refine r_iconst (v := 1) hz dX8_priceOf_22 rfl ?_
      refine r_callVi (As := fun _ => [.int p1, .int (1 : Int32)]) cl8 hz (fun _ _ h => t_X8_loanOf _ _ _ _ _ _ h) cal_X8_loanOf dX8_priceOf_23 wm_6_68 wm_6_70 wm_p_66 rfl rfl (Nat.le_of_ble_eq_true rfl) ⟨(Nat.le_of_ble_eq_true rfl), (Nat.le_of_ble_eq_true rfl)⟩ ⟨(Nat.le_of_ble_eq_true rfl), (Nat.le_of_ble_eq_true rfl)⟩ (fun v4 M3 => ?_)
      refine r_goto (tgt := 30) hz dX8_priceOf_26 rfl ?_
      exact r_iret hz hq dX8_priceOf_30 (Nat.le_of_ble_eq_true rfl) (Nat.le_of_ble_eq_true rfl)
  exact key x M' h ⟨rfl, rfl⟩
theorem dX8_isYear_0 : decode cX8_isYear 0 = .ok (.aload_n 0, 1) := by decide +kernel
theorem dX8_isYear_1 : decode cX8_isYear 1 = .ok (.iload_n 1, 1) := by decide +kernel
theorem dX8_isYear_2 : decode cX8_isYear 2 = .ok (.invokevirtual 222, 3) := by decide +kernel
theorem dX8_isYear_5 : decode cX8_isYear 5 = .ok (.ifCond .eq 23, 3) := by decide +kernel
theorem dX8_isYear_8 : decode cX8_isYear 8 = .ok (.iload_n 2, 1) := by decide +kernel
theorem dX8_isYear_9 : decode cX8_isYear 9 = .ok (.i2l, 1) := by decide +kernel
theorem dX8_isYear_10 : decode cX8_isYear 10 = .ok (.lconst 1, 1) := by decide +kernel
theorem dX8_isYear_11 : decode cX8_isYear 11 = .ok (.aload_n 0, 1) := by decide +kernel
theorem dX8_isYear_12 : decode cX8_isYear 12 = .ok (.iload_n 1, 1) := by decide +kernel
theorem dX8_isYear_13 : decode cX8_isYear 13 = .ok (.iconst 3, 1) := by decide +kernel
theorem dX8_isYear_14 : decode cX8_isYear 14 = .ok (.invokevirtual 225, 3) := by decide +kernel
theorem dX8_isYear_17 : decode cX8_isYear 17 = .ok (.i2l, 1) := by decide +kernel
theorem dX8_isYear_18 : decode cX8_isYear 18 = .ok (.invokestatic 83, 3) := by decide +kernel
theorem dX8_isYear_21 : decode cX8_isYear 21 = .ok (.ifCond .eq 7, 3) := by decide +kernel
theorem dX8_isYear_24 : decode cX8_isYear 24 = .ok (.iconst 1, 1) := by decide +kernel
theorem dX8_isYear_25 : decode cX8_isYear 25 = .ok (.goto 4, 3) := by decide +kernel
theorem dX8_isYear_28 : decode cX8_isYear 28 = .ok (.iconst 0, 1) := by decide +kernel
theorem dX8_isYear_29 : decode cX8_isYear 29 = .ok (.ireturn, 1) := by decide +kernel
abbrev rX8_isYear : Room := { frames := 2, cells := 0, slots := 0, locals := 46 }
theorem cal_X8_isYear : CalOk yX8_isYear cX8_isYear 3 (some .boolean) 2 := ⟨wm_6_116, wm_1_9, by decide, by decide, by decide +kernel⟩
def f_X8_isYear (p0 : Nat) (p1 : Int32) (p2 : Int32) (M : Mm) : Option (Int32 × Mm) :=
  ck (gK M p0 = 8) (bd (f_X8_isLoan p0 p1 M) fun v2 M1 =>
  (if v2 = 0 then
    some ((0 : Int32), M1)
  else
    ck (gK M1 p0 = 8) (bd (f_X8_loanOf p0 p1 (3 : Int32) M1) fun v4 M3 =>
    bd (f_X8_within (p2).toInt64 (1 : Int64) (v4).toInt64 M3) fun v6 M5 =>
    (if v6 = 0 then
      some ((0 : Int32), M5)
    else
      some ((1 : Int32), M5)))))
set_option maxRecDepth 20000 in
set_option maxHeartbeats 4000000 in
theorem t_X8_isYear (p0 : Nat) (p1 : Int32) (p2 : Int32) (M : Mm) (x : Int32) (M' : Mm) (h : f_X8_isYear p0 p1 p2 M = some (x, M')) : Ctr yX8_isYear cX8_isYear 3 (some .boolean) rX8_isYear (fun _ => [.ref p0, .int p1, .int p2]) M (zI x) M' := by
  refine ctr_of (plainFor_of_name (by decide)) (fun _ => Nat.le_of_ble_eq_true rfl) (fun z hz hin hq => ?_)
  have key : Sim z 0 [(0, .ref p0), (1, .int p1), (2, .int p2)] [] M 0 0 (f_X8_isYear p0 p1 p2 M) (fun a b => a = x ∧ b = M') := by
    have hq : Ret z zI (fun a b => a = x ∧ b = M') := fun a b e => by rw [e.1, e.2]; exact hq
    unfold f_X8_isYear
    refine r_aload_n hz dX8_isYear_0 0 rfl ?_
    refine r_iload_n hz dX8_isYear_1 1 rfl ?_
    refine r_callVi (As := fun _ => [.int p1]) cl8 hz (fun _ _ h => t_X8_isLoan _ _ _ _ _ h) cal_X8_isLoan dX8_isYear_2 wm_6_79 wm_6_81 wm_p_67 rfl rfl (Nat.le_of_ble_eq_true rfl) ⟨(Nat.le_of_ble_eq_true rfl), (Nat.le_of_ble_eq_true rfl)⟩ ⟨(Nat.le_of_ble_eq_true rfl), (Nat.le_of_ble_eq_true rfl)⟩ (fun v2 M1 => ?_)
    refine r_if_eq (tgt := 28) hz dX8_isYear_5 rfl ?_ ?_
    · refine r_iconst (v := 0) hz dX8_isYear_28 rfl ?_
      exact r_zret hz hq dX8_isYear_29 (Or.inl rfl) (Nat.le_of_ble_eq_true rfl) (Nat.le_of_ble_eq_true rfl)
    · refine r_iload_n hz dX8_isYear_8 2 rfl ?_
      refine r_i2l hz dX8_isYear_9 ?_
      refine r_lconst (v := 1) hz dX8_isYear_10 rfl ?_
      refine r_aload_n hz dX8_isYear_11 0 rfl ?_
      refine r_iload_n hz dX8_isYear_12 1 rfl ?_
      refine r_iconst (v := 3) hz dX8_isYear_13 rfl ?_
      refine r_callVi (As := fun _ => [.int p1, .int (3 : Int32)]) cl8 hz (fun _ _ h => t_X8_loanOf _ _ _ _ _ _ h) cal_X8_loanOf dX8_isYear_14 wm_6_68 wm_6_70 wm_p_66 rfl rfl (Nat.le_of_ble_eq_true rfl) ⟨(Nat.le_of_ble_eq_true rfl), (Nat.le_of_ble_eq_true rfl)⟩ ⟨(Nat.le_of_ble_eq_true rfl), (Nat.le_of_ble_eq_true rfl)⟩ (fun v4 M3 => ?_)
      refine r_i2l hz dX8_isYear_17 ?_
      refine r_callSi (As := fun _ => [.long (p2).toInt64, .long (1 : Int64), .long (v4).toInt64]) hz (fun _ _ h => t_X8_within _ _ _ _ _ _ h) cal_X8_within dX8_isYear_18 wm_5_175 wm_5_176 rfl rfl (Nat.le_of_ble_eq_true rfl) ⟨(Nat.le_of_ble_eq_true rfl), (Nat.le_of_ble_eq_true rfl)⟩ ⟨(Nat.le_of_ble_eq_true rfl), (Nat.le_of_ble_eq_true rfl)⟩ (fun v6 M5 => ?_)
      refine r_if_eq (tgt := 28) hz dX8_isYear_21 rfl ?_ ?_
      · refine r_iconst (v := 0) hz dX8_isYear_28 rfl ?_
        exact r_zret hz hq dX8_isYear_29 (Or.inl rfl) (Nat.le_of_ble_eq_true rfl) (Nat.le_of_ble_eq_true rfl)
      · refine r_iconst (v := 1) hz dX8_isYear_24 rfl ?_
        refine r_goto (tgt := 29) hz dX8_isYear_25 rfl ?_
        exact r_zret hz hq dX8_isYear_29 (Or.inr rfl) (Nat.le_of_ble_eq_true rfl) (Nat.le_of_ble_eq_true rfl)
  exact key x M' h ⟨rfl, rfl⟩
theorem dX8_price_0 : decode cX8_price 0 = .ok (.aload_n 0, 1) := by decide +kernel
theorem dX8_price_1 : decode cX8_price 1 = .ok (.iconst 0, 1) := by decide +kernel
theorem dX8_price_2 : decode cX8_price 2 = .ok (.putfield 46, 3) := by decide +kernel
theorem dX8_price_5 : decode cX8_price 5 = .ok (.aload_n 0, 1) := by decide +kernel
theorem dX8_price_6 : decode cX8_price 6 = .ok (.iload_n 1, 1) := by decide +kernel
theorem dX8_price_7 : decode cX8_price 7 = .ok (.iload_n 2, 1) := by decide +kernel
theorem dX8_price_8 : decode cX8_price 8 = .ok (.invokevirtual 252, 3) := by decide +kernel
theorem dX8_price_11 : decode cX8_price 11 = .ok (.ifCond .eq 12, 3) := by decide +kernel
theorem dX8_price_14 : decode cX8_price 14 = .ok (.aload_n 0, 1) := by decide +kernel
theorem dX8_price_15 : decode cX8_price 15 = .ok (.iload_n 1, 1) := by decide +kernel
theorem dX8_price_16 : decode cX8_price 16 = .ok (.iload_n 2, 1) := by decide +kernel
theorem dX8_price_17 : decode cX8_price 17 = .ok (.invokevirtual 255, 3) := by decide +kernel
theorem dX8_price_20 : decode cX8_price 20 = .ok (.goto 4, 3) := by decide +kernel
theorem dX8_price_23 : decode cX8_price 23 = .ok (.iconst (-1), 1) := by decide +kernel
theorem dX8_price_24 : decode cX8_price 24 = .ok (.ireturn, 1) := by decide +kernel
abbrev rX8_price : Room := { frames := 3, cells := 0, slots := 0, locals := 68 }
theorem cal_X8_price : CalOk yX8_price cX8_price 3 (some .int) 2 := ⟨wm_6_112, wm_1_9, by decide, by decide, by decide +kernel⟩
def f_X8_price (p0 : Nat) (p1 : Int32) (p2 : Int32) (M : Mm) : Option (Int32 × Mm) :=
  ck (gK M p0 = 8) (nm (sI M p0 0 (0 : Int32)) fun M1 =>
  ck (gK M1 p0 = 8) (bd (f_X8_isYear p0 p1 p2 M1) fun v3 M2 =>
  (if v3 = 0 then
    some ((-1 : Int32), M2)
  else
    ck (gK M2 p0 = 8) (bd (f_X8_priceOf p0 p1 p2 M2) fun v5 M4 =>
    some (v5, M4)))))
set_option maxRecDepth 20000 in
set_option maxHeartbeats 4000000 in
theorem t_X8_price (p0 : Nat) (p1 : Int32) (p2 : Int32) (M : Mm) (x : Int32) (M' : Mm) (h : f_X8_price p0 p1 p2 M = some (x, M')) : Ctr yX8_price cX8_price 3 (some .int) rX8_price (fun _ => [.ref p0, .int p1, .int p2]) M (zI x) M' := by
  refine ctr_of (plainFor_of_name (by decide)) (fun _ => Nat.le_of_ble_eq_true rfl) (fun z hz hin hq => ?_)
  have key : Sim z 0 [(0, .ref p0), (1, .int p1), (2, .int p2)] [] M 0 0 (f_X8_price p0 p1 p2 M) (fun a b => a = x ∧ b = M') := by
    have hq : Ret z zI (fun a b => a = x ∧ b = M') := fun a b e => by rw [e.1, e.2]; exact hq
    unfold f_X8_price
    refine r_aload_n hz dX8_price_0 0 rfl ?_
    refine r_iconst (v := 0) hz dX8_price_1 rfl ?_
    refine r_putI (j := 0) cl8 hz dX8_price_2 (by decide) wm_5_56 (Or.inl rfl) rfl rfl rfl ?_
    refine r_nmM (fun M1 => ?_)
    refine r_aload_n hz dX8_price_5 0 rfl ?_
    refine r_iload_n hz dX8_price_6 1 rfl ?_
    refine r_iload_n hz dX8_price_7 2 rfl ?_
    refine r_callVi (As := fun _ => [.int p1, .int p2]) cl8 hz (fun _ _ h => t_X8_isYear _ _ _ _ _ _ h) cal_X8_isYear dX8_price_8 wm_6_113 wm_6_115 wm_p_70 rfl rfl (Nat.le_of_ble_eq_true rfl) ⟨(Nat.le_of_ble_eq_true rfl), (Nat.le_of_ble_eq_true rfl)⟩ ⟨(Nat.le_of_ble_eq_true rfl), (Nat.le_of_ble_eq_true rfl)⟩ (fun v3 M2 => ?_)
    refine r_if_eq (tgt := 23) hz dX8_price_11 rfl ?_ ?_
    · refine r_iconst (v := -1) hz dX8_price_23 rfl ?_
      exact r_iret hz hq dX8_price_24 (Nat.le_of_ble_eq_true rfl) (Nat.le_of_ble_eq_true rfl)
    · refine r_aload_n hz dX8_price_14 0 rfl ?_
      refine r_iload_n hz dX8_price_15 1 rfl ?_
      refine r_iload_n hz dX8_price_16 2 rfl ?_
      refine r_callVi (As := fun _ => [.int p1, .int p2]) cl8 hz (fun _ _ h => t_X8_priceOf _ _ _ _ _ _ h) cal_X8_priceOf dX8_price_17 wm_6_117 wm_6_119 wm_p_71 rfl rfl (Nat.le_of_ble_eq_true rfl) ⟨(Nat.le_of_ble_eq_true rfl), (Nat.le_of_ble_eq_true rfl)⟩ ⟨(Nat.le_of_ble_eq_true rfl), (Nat.le_of_ble_eq_true rfl)⟩ (fun v5 M4 => ?_)
      refine r_goto (tgt := 24) hz dX8_price_20 rfl ?_
      exact r_iret hz hq dX8_price_24 (Nat.le_of_ble_eq_true rfl) (Nat.le_of_ble_eq_true rfl)
  exact key x M' h ⟨rfl, rfl⟩
theorem dX8_stay_0 : decode cX8_stay 0 = .ok (.aload_n 0, 1) := by decide +kernel
theorem dX8_stay_1 : decode cX8_stay 1 = .ok (.iload_n 1, 1) := by decide +kernel
theorem dX8_stay_2 : decode cX8_stay 2 = .ok (.iconst 3, 1) := by decide +kernel
theorem dX8_stay_3 : decode cX8_stay 3 = .ok (.invokevirtual 225, 3) := by decide +kernel
theorem dX8_stay_6 : decode cX8_stay 6 = .ok (.istore 6, 2) := by decide +kernel
theorem dX8_stay_8 : decode cX8_stay 8 = .ok (.aload_n 0, 1) := by decide +kernel
theorem dX8_stay_9 : decode cX8_stay 9 = .ok (.iload_n 1, 1) := by decide +kernel
theorem dX8_stay_10 : decode cX8_stay 10 = .ok (.iconst 4, 1) := by decide +kernel
theorem dX8_stay_11 : decode cX8_stay 11 = .ok (.invokevirtual 225, 3) := by decide +kernel
theorem dX8_stay_14 : decode cX8_stay 14 = .ok (.istore 7, 2) := by decide +kernel
theorem dX8_stay_16 : decode cX8_stay 16 = .ok (.aload_n 0, 1) := by decide +kernel
theorem dX8_stay_17 : decode cX8_stay 17 = .ok (.iload_n 1, 1) := by decide +kernel
theorem dX8_stay_18 : decode cX8_stay 18 = .ok (.iconst 1, 1) := by decide +kernel
theorem dX8_stay_19 : decode cX8_stay 19 = .ok (.invokevirtual 225, 3) := by decide +kernel
theorem dX8_stay_22 : decode cX8_stay 22 = .ok (.istore 8, 2) := by decide +kernel
theorem dX8_stay_24 : decode cX8_stay 24 = .ok (.aload_n 0, 1) := by decide +kernel
theorem dX8_stay_25 : decode cX8_stay 25 = .ok (.iload 5, 2) := by decide +kernel
theorem dX8_stay_27 : decode cX8_stay 27 = .ok (.iload 8, 2) := by decide +kernel
theorem dX8_stay_29 : decode cX8_stay 29 = .ok (.if_icmp .ge 19, 3) := by decide +kernel
theorem dX8_stay_32 : decode cX8_stay 32 = .ok (.iload_n 2, 1) := by decide +kernel
theorem dX8_stay_33 : decode cX8_stay 33 = .ok (.iload 6, 2) := by decide +kernel
theorem dX8_stay_35 : decode cX8_stay 35 = .ok (.if_icmp .eq 13, 3) := by decide +kernel
theorem dX8_stay_38 : decode cX8_stay 38 = .ok (.iload 7, 2) := by decide +kernel
theorem dX8_stay_40 : decode cX8_stay 40 = .ok (.iconst 2, 1) := by decide +kernel
theorem dX8_stay_41 : decode cX8_stay 41 = .ok (.if_icmp .eq 7, 3) := by decide +kernel
theorem dX8_stay_44 : decode cX8_stay 44 = .ok (.iconst 1, 1) := by decide +kernel
theorem dX8_stay_45 : decode cX8_stay 45 = .ok (.goto 4, 3) := by decide +kernel
theorem dX8_stay_48 : decode cX8_stay 48 = .ok (.iconst 0, 1) := by decide +kernel
theorem dX8_stay_49 : decode cX8_stay 49 = .ok (.putfield 258, 3) := by decide +kernel
theorem dX8_stay_52 : decode cX8_stay 52 = .ok (.aload_n 0, 1) := by decide +kernel
theorem dX8_stay_53 : decode cX8_stay 53 = .ok (.aload_n 0, 1) := by decide +kernel
theorem dX8_stay_54 : decode cX8_stay 54 = .ok (.getfield 258, 3) := by decide +kernel
theorem dX8_stay_57 : decode cX8_stay 57 = .ok (.ifCond .eq 8, 3) := by decide +kernel
theorem dX8_stay_60 : decode cX8_stay 60 = .ok (.iload 5, 2) := by decide +kernel
theorem dX8_stay_62 : decode cX8_stay 62 = .ok (.goto 5, 3) := by decide +kernel
theorem dX8_stay_65 : decode cX8_stay 65 = .ok (.iload 8, 2) := by decide +kernel
theorem dX8_stay_67 : decode cX8_stay 67 = .ok (.putfield 262, 3) := by decide +kernel
theorem dX8_stay_70 : decode cX8_stay 70 = .ok (.aload_n 0, 1) := by decide +kernel
theorem dX8_stay_71 : decode cX8_stay 71 = .ok (.iload 4, 2) := by decide +kernel
theorem dX8_stay_73 : decode cX8_stay 73 = .ok (.putfield 265, 3) := by decide +kernel
theorem dX8_stay_76 : decode cX8_stay 76 = .ok (.iload_n 2, 1) := by decide +kernel
theorem dX8_stay_77 : decode cX8_stay 77 = .ok (.iload 6, 2) := by decide +kernel
theorem dX8_stay_79 : decode cX8_stay 79 = .ok (.if_icmp .ne 11, 3) := by decide +kernel
theorem dX8_stay_82 : decode cX8_stay 82 = .ok (.aload_n 0, 1) := by decide +kernel
theorem dX8_stay_83 : decode cX8_stay 83 = .ok (.iload_n 3, 1) := by decide +kernel
theorem dX8_stay_84 : decode cX8_stay 84 = .ok (.putfield 268, 3) := by decide +kernel
theorem dX8_stay_87 : decode cX8_stay 87 = .ok (.goto 134, 3) := by decide +kernel
theorem dX8_stay_90 : decode cX8_stay 90 = .ok (.iload 7, 2) := by decide +kernel
theorem dX8_stay_92 : decode cX8_stay 92 = .ok (.ifCond .ne 30, 3) := by decide +kernel
theorem dX8_stay_95 : decode cX8_stay 95 = .ok (.aload_n 0, 1) := by decide +kernel
theorem dX8_stay_96 : decode cX8_stay 96 = .ok (.aload_n 0, 1) := by decide +kernel
theorem dX8_stay_97 : decode cX8_stay 97 = .ok (.iload_n 1, 1) := by decide +kernel
theorem dX8_stay_98 : decode cX8_stay 98 = .ok (.iconst 0, 1) := by decide +kernel
theorem dX8_stay_99 : decode cX8_stay 99 = .ok (.invokevirtual 225, 3) := by decide +kernel
theorem dX8_stay_102 : decode cX8_stay 102 = .ok (.iload_n 2, 1) := by decide +kernel
theorem dX8_stay_103 : decode cX8_stay 103 = .ok (.imul, 1) := by decide +kernel
theorem dX8_stay_104 : decode cX8_stay 104 = .ok (.iload 6, 2) := by decide +kernel
theorem dX8_stay_106 : decode cX8_stay 106 = .ok (.idiv, 1) := by decide +kernel
theorem dX8_stay_107 : decode cX8_stay 107 = .ok (.aload_n 0, 1) := by decide +kernel
theorem dX8_stay_108 : decode cX8_stay 108 = .ok (.iload_n 1, 1) := by decide +kernel
theorem dX8_stay_109 : decode cX8_stay 109 = .ok (.iconst 0, 1) := by decide +kernel
theorem dX8_stay_110 : decode cX8_stay 110 = .ok (.invokevirtual 225, 3) := by decide +kernel
theorem dX8_stay_113 : decode cX8_stay 113 = .ok (.iload_n 3, 1) := by decide +kernel
theorem dX8_stay_114 : decode cX8_stay 114 = .ok (.isub, 1) := by decide +kernel
theorem dX8_stay_115 : decode cX8_stay 115 = .ok (.isub, 1) := by decide +kernel
theorem dX8_stay_116 : decode cX8_stay 116 = .ok (.putfield 268, 3) := by decide +kernel
theorem dX8_stay_119 : decode cX8_stay 119 = .ok (.goto 102, 3) := by decide +kernel
theorem dX8_stay_122 : decode cX8_stay 122 = .ok (.iload 7, 2) := by decide +kernel
theorem dX8_stay_124 : decode cX8_stay 124 = .ok (.iconst 1, 1) := by decide +kernel
theorem dX8_stay_125 : decode cX8_stay 125 = .ok (.if_icmp .ne 91, 3) := by decide +kernel
theorem dX8_stay_128 : decode cX8_stay 128 = .ok (.aload_n 0, 1) := by decide +kernel
theorem dX8_stay_129 : decode cX8_stay 129 = .ok (.iload_n 1, 1) := by decide +kernel
theorem dX8_stay_130 : decode cX8_stay 130 = .ok (.iconst 5, 1) := by decide +kernel
theorem dX8_stay_131 : decode cX8_stay 131 = .ok (.invokevirtual 225, 3) := by decide +kernel
theorem dX8_stay_134 : decode cX8_stay 134 = .ok (.aload_n 0, 1) := by decide +kernel
theorem dX8_stay_135 : decode cX8_stay 135 = .ok (.iload_n 1, 1) := by decide +kernel
theorem dX8_stay_136 : decode cX8_stay 136 = .ok (.iconst 2, 1) := by decide +kernel
theorem dX8_stay_137 : decode cX8_stay 137 = .ok (.invokevirtual 225, 3) := by decide +kernel
theorem dX8_stay_140 : decode cX8_stay 140 = .ok (.iload_n 3, 1) := by decide +kernel
theorem dX8_stay_141 : decode cX8_stay 141 = .ok (.imul, 1) := by decide +kernel
theorem dX8_stay_142 : decode cX8_stay 142 = .ok (.isub, 1) := by decide +kernel
theorem dX8_stay_143 : decode cX8_stay 143 = .ok (.istore 9, 2) := by decide +kernel
theorem dX8_stay_145 : decode cX8_stay 145 = .ok (.aload_n 0, 1) := by decide +kernel
theorem dX8_stay_146 : decode cX8_stay 146 = .ok (.dup, 1) := by decide +kernel
theorem dX8_stay_147 : decode cX8_stay 147 = .ok (.getfield 265, 3) := by decide +kernel
theorem dX8_stay_150 : decode cX8_stay 150 = .ok (.iload 9, 2) := by decide +kernel
theorem dX8_stay_152 : decode cX8_stay 152 = .ok (.ifCond .le 8, 3) := by decide +kernel
theorem dX8_stay_155 : decode cX8_stay 155 = .ok (.iload 9, 2) := by decide +kernel
theorem dX8_stay_157 : decode cX8_stay 157 = .ok (.goto 4, 3) := by decide +kernel
theorem dX8_stay_160 : decode cX8_stay 160 = .ok (.iconst 0, 1) := by decide +kernel
theorem dX8_stay_161 : decode cX8_stay 161 = .ok (.iadd, 1) := by decide +kernel
theorem dX8_stay_162 : decode cX8_stay 162 = .ok (.putfield 265, 3) := by decide +kernel
theorem dX8_stay_165 : decode cX8_stay 165 = .ok (.aload_n 0, 1) := by decide +kernel
theorem dX8_stay_166 : decode cX8_stay 166 = .ok (.aload_n 0, 1) := by decide +kernel
theorem dX8_stay_167 : decode cX8_stay 167 = .ok (.getfield 265, 3) := by decide +kernel
theorem dX8_stay_170 : decode cX8_stay 170 = .ok (.aload_n 0, 1) := by decide +kernel
theorem dX8_stay_171 : decode cX8_stay 171 = .ok (.getfield 262, 3) := by decide +kernel
theorem dX8_stay_174 : decode cX8_stay 174 = .ok (.idiv, 1) := by decide +kernel
theorem dX8_stay_175 : decode cX8_stay 175 = .ok (.iload_n 3, 1) := by decide +kernel
theorem dX8_stay_176 : decode cX8_stay 176 = .ok (.if_icmp .ge 15, 3) := by decide +kernel
theorem dX8_stay_179 : decode cX8_stay 179 = .ok (.aload_n 0, 1) := by decide +kernel
theorem dX8_stay_180 : decode cX8_stay 180 = .ok (.getfield 265, 3) := by decide +kernel
theorem dX8_stay_183 : decode cX8_stay 183 = .ok (.aload_n 0, 1) := by decide +kernel
theorem dX8_stay_184 : decode cX8_stay 184 = .ok (.getfield 262, 3) := by decide +kernel
theorem dX8_stay_187 : decode cX8_stay 187 = .ok (.idiv, 1) := by decide +kernel
theorem dX8_stay_188 : decode cX8_stay 188 = .ok (.goto 4, 3) := by decide +kernel
theorem dX8_stay_191 : decode cX8_stay 191 = .ok (.iload_n 3, 1) := by decide +kernel
theorem dX8_stay_192 : decode cX8_stay 192 = .ok (.putfield 268, 3) := by decide +kernel
theorem dX8_stay_195 : decode cX8_stay 195 = .ok (.aload_n 0, 1) := by decide +kernel
theorem dX8_stay_196 : decode cX8_stay 196 = .ok (.dup, 1) := by decide +kernel
theorem dX8_stay_197 : decode cX8_stay 197 = .ok (.getfield 265, 3) := by decide +kernel
theorem dX8_stay_200 : decode cX8_stay 200 = .ok (.aload_n 0, 1) := by decide +kernel
theorem dX8_stay_201 : decode cX8_stay 201 = .ok (.getfield 268, 3) := by decide +kernel
theorem dX8_stay_204 : decode cX8_stay 204 = .ok (.aload_n 0, 1) := by decide +kernel
theorem dX8_stay_205 : decode cX8_stay 205 = .ok (.getfield 262, 3) := by decide +kernel
theorem dX8_stay_208 : decode cX8_stay 208 = .ok (.imul, 1) := by decide +kernel
theorem dX8_stay_209 : decode cX8_stay 209 = .ok (.isub, 1) := by decide +kernel
theorem dX8_stay_210 : decode cX8_stay 210 = .ok (.putfield 265, 3) := by decide +kernel
theorem dX8_stay_213 : decode cX8_stay 213 = .ok (.goto 8, 3) := by decide +kernel
theorem dX8_stay_216 : decode cX8_stay 216 = .ok (.aload_n 0, 1) := by decide +kernel
theorem dX8_stay_217 : decode cX8_stay 217 = .ok (.iconst 0, 1) := by decide +kernel
theorem dX8_stay_218 : decode cX8_stay 218 = .ok (.putfield 268, 3) := by decide +kernel
theorem dX8_stay_221 : decode cX8_stay 221 = .ok (.aload_n 0, 1) := by decide +kernel
theorem dX8_stay_222 : decode cX8_stay 222 = .ok (.getfield 268, 3) := by decide +kernel
theorem dX8_stay_225 : decode cX8_stay 225 = .ok (.ireturn, 1) := by decide +kernel
abbrev rX8_stay : Room := { frames := 1, cells := 0, slots := 0, locals := 22 }
theorem cal_X8_stay : CalOk yX8_stay cX8_stay 10 (some .int) 5 := ⟨wm_6_142, wm_1_9, by decide, by decide, by decide +kernel⟩
def f_X8_stay_192 (x0 : Nat) (y0 : Int32) (y1 : Nat) (M : Mm) : Option (Int32 × Mm) :=
  ck (gK M y1 = 8) (nm (sI M y1 19 y0) fun M1 =>
  ck (gK M1 x0 = 8) (ck (gK M1 x0 = 8) (ck (gK M1 x0 = 8) (ck (gK M1 x0 = 8) (nm (sI M1 x0 22 ((gI M1 x0 22) - ((gI M1 x0 19) * (gI M1 x0 20)))) fun M2 =>
  ck (gK M2 x0 = 8) (some ((gI M2 x0 19), M2)))))))
set_option maxRecDepth 20000 in
set_option maxHeartbeats 4000000 in
theorem s_X8_stay_192 {z : Zt} {K : Int32 → Mm → Prop} (hz : Good z RX8 cX8_stay 10 rX8_stay (some .int)) (hq : Ret z zI K) : ∀ (x0 : Nat) (y0 : Int32) (y1 : Nat) (M : Mm), Sim z 192 [(0, .ref x0)] [.int y0, .ref y1] M 0 0 (f_X8_stay_192 x0 y0 y1 M) K := by
  intro x0 y0 y1 M
  unfold f_X8_stay_192
  refine r_putI (j := 19) cl8 hz dX8_stay_192 (by decide) wm_5_75 (Or.inl rfl) rfl rfl rfl ?_
  refine r_nmM (fun M1 => ?_)
  refine r_aload_n hz dX8_stay_195 0 rfl ?_
  refine r_dup hz dX8_stay_196 rfl ?_
  refine r_getI (j := 22) cl8 hz dX8_stay_197 (by decide) wm_5_78 rfl ?_
  refine r_aload_n hz dX8_stay_200 0 rfl ?_
  refine r_getI (j := 19) cl8 hz dX8_stay_201 (by decide) wm_5_75 rfl ?_
  refine r_aload_n hz dX8_stay_204 0 rfl ?_
  refine r_getI (j := 20) cl8 hz dX8_stay_205 (by decide) wm_5_76 rfl ?_
  refine r_imul hz dX8_stay_208 ?_
  refine r_isub hz dX8_stay_209 ?_
  refine r_putI (j := 22) cl8 hz dX8_stay_210 (by decide) wm_5_78 (Or.inl rfl) rfl rfl rfl ?_
  refine r_nmM (fun M2 => ?_)
  refine r_goto (tgt := 221) hz dX8_stay_213 rfl ?_
  refine r_aload_n hz dX8_stay_221 0 rfl ?_
  refine r_getI (j := 19) cl8 hz dX8_stay_222 (by decide) wm_5_75 rfl ?_
  exact r_iret hz hq dX8_stay_225 (Nat.le_of_ble_eq_true rfl) (Nat.le_of_ble_eq_true rfl)
def f_X8_stay_161 (x0 : Nat) (x3 : Int32) (y0 : Int32) (y1 : Int32) (y2 : Nat) (M : Mm) : Option (Int32 × Mm) :=
  ck (gK M y2 = 8) (nm (sI M y2 22 (y1 + y0)) fun M1 =>
  ck (gK M1 x0 = 8) (ck (gK M1 x0 = 8) (ck (¬ (gI M1 x0 20) = 0) ((if x3 ≤ ((gI M1 x0 22) / (gI M1 x0 20)) then
    f_X8_stay_192 x0 x3 x0 M1
  else
    ck (gK M1 x0 = 8) (ck (gK M1 x0 = 8) (ck (¬ (gI M1 x0 20) = 0) (f_X8_stay_192 x0 ((gI M1 x0 22) / (gI M1 x0 20)) x0 M1))))))))
set_option maxRecDepth 20000 in
set_option maxHeartbeats 4000000 in
theorem s_X8_stay_161 {z : Zt} {K : Int32 → Mm → Prop} (hz : Good z RX8 cX8_stay 10 rX8_stay (some .int)) (hq : Ret z zI K) : ∀ (x0 : Nat) (x3 : Int32) (y0 : Int32) (y1 : Int32) (y2 : Nat) (M : Mm), Sim z 161 [(0, .ref x0), (3, .int x3)] [.int y0, .int y1, .ref y2] M 0 0 (f_X8_stay_161 x0 x3 y0 y1 y2 M) K := by
  intro x0 x3 y0 y1 y2 M
  unfold f_X8_stay_161
  refine r_iadd hz dX8_stay_161 ?_
  refine r_putI (j := 22) cl8 hz dX8_stay_162 (by decide) wm_5_78 (Or.inl rfl) rfl rfl rfl ?_
  refine r_nmM (fun M1 => ?_)
  refine r_aload_n hz dX8_stay_165 0 rfl ?_
  refine r_aload_n hz dX8_stay_166 0 rfl ?_
  refine r_getI (j := 22) cl8 hz dX8_stay_167 (by decide) wm_5_78 rfl ?_
  refine r_aload_n hz dX8_stay_170 0 rfl ?_
  refine r_getI (j := 20) cl8 hz dX8_stay_171 (by decide) wm_5_76 rfl ?_
  refine r_idiv hz dX8_stay_174 ?_
  refine r_iload_n hz dX8_stay_175 1 rfl ?_
  refine r_icmp_ge (tgt := 191) hz dX8_stay_176 rfl ?_ ?_
  · refine r_iload_n hz dX8_stay_191 1 rfl ?_
    refine r_sub [0] rfl ?_
    exact s_X8_stay_192 hz hq x0 x3 x0 M1
  · refine r_aload_n hz dX8_stay_179 0 rfl ?_
    refine r_getI (j := 22) cl8 hz dX8_stay_180 (by decide) wm_5_78 rfl ?_
    refine r_aload_n hz dX8_stay_183 0 rfl ?_
    refine r_getI (j := 20) cl8 hz dX8_stay_184 (by decide) wm_5_76 rfl ?_
    refine r_idiv hz dX8_stay_187 ?_
    refine r_goto (tgt := 192) hz dX8_stay_188 rfl ?_
    refine r_sub [0] rfl ?_
    exact s_X8_stay_192 hz hq x0 ((gI M1 x0 22) / (gI M1 x0 20)) x0 M1
def f_X8_stay_67 (x0 : Nat) (x1 : Int32) (x2 : Int32) (x3 : Int32) (x4 : Int32) (x6 : Int32) (x7 : Int32) (y0 : Int32) (y1 : Nat) (M : Mm) : Option (Int32 × Mm) :=
  ck (gK M y1 = 8) (nm (sI M y1 20 y0) fun M1 =>
  ck (gK M1 x0 = 8) (nm (sI M1 x0 22 x4) fun M2 =>
  (if ¬ x2 = x6 then
    (if ¬ x7 = 0 then
      (if ¬ x7 = (1 : Int32) then
        ck (gK M2 x0 = 8) (nm (sI M2 x0 19 (0 : Int32)) fun M3 =>
        ck (gK M3 x0 = 8) (some ((gI M3 x0 19), M3)))
      else
        ck (gK M2 x0 = 8) (bd (f_X8_loanOf x0 x1 (5 : Int32) M2) fun v5 M4 =>
        ck (gK M4 x0 = 8) (bd (f_X8_loanOf x0 x1 (2 : Int32) M4) fun v7 M6 =>
        nm (v5 - (v7 * x3)) fun v8 =>
        ck (gK M6 x0 = 8) ((if v8 ≤ 0 then
          f_X8_stay_161 x0 x3 (0 : Int32) (gI M6 x0 22) x0 M6
        else
          f_X8_stay_161 x0 x3 v8 (gI M6 x0 22) x0 M6)))))
    else
      ck (gK M2 x0 = 8) (bd (f_X8_loanOf x0 x1 (0 : Int32) M2) fun v10 M9 =>
      ck (¬ x6 = 0) (ck (gK M9 x0 = 8) (bd (f_X8_loanOf x0 x1 (0 : Int32) M9) fun v12 M11 =>
      ck (gK M11 x0 = 8) (nm (sI M11 x0 19 (((v10 * x2) / x6) - (v12 - x3))) fun M13 =>
      ck (gK M13 x0 = 8) (some ((gI M13 x0 19), M13)))))))
  else
    ck (gK M2 x0 = 8) (nm (sI M2 x0 19 x3) fun M14 =>
    ck (gK M14 x0 = 8) (some ((gI M14 x0 19), M14))))))
set_option maxRecDepth 20000 in
set_option maxHeartbeats 4000000 in
theorem s_X8_stay_67 {z : Zt} {K : Int32 → Mm → Prop} (hz : Good z RX8 cX8_stay 10 rX8_stay (some .int)) (hq : Ret z zI K) : ∀ (x0 : Nat) (x1 : Int32) (x2 : Int32) (x3 : Int32) (x4 : Int32) (x6 : Int32) (x7 : Int32) (y0 : Int32) (y1 : Nat) (M : Mm), Sim z 67 [(0, .ref x0), (1, .int x1), (2, .int x2), (3, .int x3), (4, .int x4), (6, .int x6), (7, .int x7)] [.int y0, .ref y1] M 0 0 (f_X8_stay_67 x0 x1 x2 x3 x4 x6 x7 y0 y1 M) K := by
  intro x0 x1 x2 x3 x4 x6 x7 y0 y1 M
  unfold f_X8_stay_67
  refine r_putI (j := 20) cl8 hz dX8_stay_67 (by decide) wm_5_76 (Or.inl rfl) rfl rfl rfl ?_
  refine r_nmM (fun M1 => ?_)
  refine r_aload_n hz dX8_stay_70 0 rfl ?_
  refine r_iload hz dX8_stay_71 4 rfl ?_
  refine r_putI (j := 22) cl8 hz dX8_stay_73 (by decide) wm_5_78 (Or.inl rfl) rfl rfl rfl ?_
  refine r_nmM (fun M2 => ?_)
  refine r_iload_n hz dX8_stay_76 2 rfl ?_
  refine r_iload hz dX8_stay_77 5 rfl ?_
  refine r_icmp_ne (tgt := 90) hz dX8_stay_79 rfl ?_ ?_
  · refine r_iload hz dX8_stay_90 6 rfl ?_
    refine r_if_ne (tgt := 122) hz dX8_stay_92 rfl ?_ ?_
    · refine r_iload hz dX8_stay_122 6 rfl ?_
      refine r_iconst (v := 1) hz dX8_stay_124 rfl ?_
      refine r_icmp_ne (tgt := 216) hz dX8_stay_125 rfl ?_ ?_
      · refine r_aload_n hz dX8_stay_216 0 rfl ?_
        refine r_iconst (v := 0) hz dX8_stay_217 rfl ?_
        refine r_putI (j := 19) cl8 hz dX8_stay_218 (by decide) wm_5_75 (Or.inl rfl) rfl rfl rfl ?_
        refine r_nmM (fun M3 => ?_)
        refine r_aload_n hz dX8_stay_221 0 rfl ?_
        refine r_getI (j := 19) cl8 hz dX8_stay_222 (by decide) wm_5_75 rfl ?_
        exact r_iret hz hq dX8_stay_225 (Nat.le_of_ble_eq_true rfl) (Nat.le_of_ble_eq_true rfl)
      · refine r_aload_n hz dX8_stay_128 0 rfl ?_
        refine r_iload_n hz dX8_stay_129 1 rfl ?_
        refine r_iconst (v := 5) hz dX8_stay_130 rfl ?_
        refine r_callVi (As := fun _ => [.int x1, .int (5 : Int32)]) cl8 hz (fun _ _ h => t_X8_loanOf _ _ _ _ _ _ h) cal_X8_loanOf dX8_stay_131 wm_6_68 wm_6_70 wm_p_66 rfl rfl (Nat.le_of_ble_eq_true rfl) ⟨(Nat.le_of_ble_eq_true rfl), (Nat.le_of_ble_eq_true rfl)⟩ ⟨(Nat.le_of_ble_eq_true rfl), (Nat.le_of_ble_eq_true rfl)⟩ (fun v5 M4 => ?_)
        refine r_aload_n hz dX8_stay_134 0 rfl ?_
        refine r_iload_n hz dX8_stay_135 1 rfl ?_
        refine r_iconst (v := 2) hz dX8_stay_136 rfl ?_
        refine r_callVi (As := fun _ => [.int x1, .int (2 : Int32)]) cl8 hz (fun _ _ h => t_X8_loanOf _ _ _ _ _ _ h) cal_X8_loanOf dX8_stay_137 wm_6_68 wm_6_70 wm_p_66 rfl rfl (Nat.le_of_ble_eq_true rfl) ⟨(Nat.le_of_ble_eq_true rfl), (Nat.le_of_ble_eq_true rfl)⟩ ⟨(Nat.le_of_ble_eq_true rfl), (Nat.le_of_ble_eq_true rfl)⟩ (fun v7 M6 => ?_)
        refine r_iload_n hz dX8_stay_140 3 rfl ?_
        refine r_imul hz dX8_stay_141 ?_
        refine r_isub hz dX8_stay_142 ?_
        refine r_nmi (fun v8 => ?_)
        refine r_istore (lv' := [(9, .int v8), (0, .ref x0), (1, .int x1), (2, .int x2), (3, .int x3), (4, .int x4), (6, .int x6), (7, .int x7)]) hz dX8_stay_143 (by decide) rfl ?_
        refine r_aload_n hz dX8_stay_145 1 rfl ?_
        refine r_dup hz dX8_stay_146 rfl ?_
        refine r_getI (j := 22) cl8 hz dX8_stay_147 (by decide) wm_5_78 rfl ?_
        refine r_iload hz dX8_stay_150 0 rfl ?_
        refine r_if_le (tgt := 160) hz dX8_stay_152 rfl ?_ ?_
        · refine r_iconst (v := 0) hz dX8_stay_160 rfl ?_
          refine r_sub [1, 4] rfl ?_
          exact s_X8_stay_161 hz hq x0 x3 (0 : Int32) (gI M6 x0 22) x0 M6
        · refine r_iload hz dX8_stay_155 0 rfl ?_
          refine r_goto (tgt := 161) hz dX8_stay_157 rfl ?_
          refine r_sub [1, 4] rfl ?_
          exact s_X8_stay_161 hz hq x0 x3 v8 (gI M6 x0 22) x0 M6
    · refine r_aload_n hz dX8_stay_95 0 rfl ?_
      refine r_aload_n hz dX8_stay_96 0 rfl ?_
      refine r_iload_n hz dX8_stay_97 1 rfl ?_
      refine r_iconst (v := 0) hz dX8_stay_98 rfl ?_
      refine r_callVi (As := fun _ => [.int x1, .int (0 : Int32)]) cl8 hz (fun _ _ h => t_X8_loanOf _ _ _ _ _ _ h) cal_X8_loanOf dX8_stay_99 wm_6_68 wm_6_70 wm_p_66 rfl rfl (Nat.le_of_ble_eq_true rfl) ⟨(Nat.le_of_ble_eq_true rfl), (Nat.le_of_ble_eq_true rfl)⟩ ⟨(Nat.le_of_ble_eq_true rfl), (Nat.le_of_ble_eq_true rfl)⟩ (fun v10 M9 => ?_)
      refine r_iload_n hz dX8_stay_102 2 rfl ?_
      refine r_imul hz dX8_stay_103 ?_
      refine r_iload hz dX8_stay_104 5 rfl ?_
      refine r_idiv hz dX8_stay_106 ?_
      refine r_aload_n hz dX8_stay_107 0 rfl ?_
      refine r_iload_n hz dX8_stay_108 1 rfl ?_
      refine r_iconst (v := 0) hz dX8_stay_109 rfl ?_
      refine r_callVi (As := fun _ => [.int x1, .int (0 : Int32)]) cl8 hz (fun _ _ h => t_X8_loanOf _ _ _ _ _ _ h) cal_X8_loanOf dX8_stay_110 wm_6_68 wm_6_70 wm_p_66 rfl rfl (Nat.le_of_ble_eq_true rfl) ⟨(Nat.le_of_ble_eq_true rfl), (Nat.le_of_ble_eq_true rfl)⟩ ⟨(Nat.le_of_ble_eq_true rfl), (Nat.le_of_ble_eq_true rfl)⟩ (fun v12 M11 => ?_)
      refine r_iload_n hz dX8_stay_113 3 rfl ?_
      refine r_isub hz dX8_stay_114 ?_
      refine r_isub hz dX8_stay_115 ?_
      refine r_putI (j := 19) cl8 hz dX8_stay_116 (by decide) wm_5_75 (Or.inl rfl) rfl rfl rfl ?_
      refine r_nmM (fun M13 => ?_)
      refine r_goto (tgt := 221) hz dX8_stay_119 rfl ?_
      refine r_aload_n hz dX8_stay_221 0 rfl ?_
      refine r_getI (j := 19) cl8 hz dX8_stay_222 (by decide) wm_5_75 rfl ?_
      exact r_iret hz hq dX8_stay_225 (Nat.le_of_ble_eq_true rfl) (Nat.le_of_ble_eq_true rfl)
  · refine r_aload_n hz dX8_stay_82 0 rfl ?_
    refine r_iload_n hz dX8_stay_83 3 rfl ?_
    refine r_putI (j := 19) cl8 hz dX8_stay_84 (by decide) wm_5_75 (Or.inl rfl) rfl rfl rfl ?_
    refine r_nmM (fun M14 => ?_)
    refine r_goto (tgt := 221) hz dX8_stay_87 rfl ?_
    refine r_aload_n hz dX8_stay_221 0 rfl ?_
    refine r_getI (j := 19) cl8 hz dX8_stay_222 (by decide) wm_5_75 rfl ?_
    exact r_iret hz hq dX8_stay_225 (Nat.le_of_ble_eq_true rfl) (Nat.le_of_ble_eq_true rfl)
def f_X8_stay (p0 : Nat) (p1 : Int32) (p2 : Int32) (p3 : Int32) (p4 : Int32) (p5 : Int32) (M : Mm) : Option (Int32 × Mm) :=
  ck (gK M p0 = 8) (bd (f_X8_loanOf p0 p1 (3 : Int32) M) fun v2 M1 =>
  ck (gK M1 p0 = 8) (bd (f_X8_loanOf p0 p1 (4 : Int32) M1) fun v4 M3 =>
  ck (gK M3 p0 = 8) (bd (f_X8_loanOf p0 p1 (1 : Int32) M3) fun v6 M5 =>
  (if v6 ≤ p5 then
    ck (gK M5 p0 = 8) (nm (sI M5 p0 21 (0 : Int32)) fun M7 =>
    ck (gK M7 p0 = 8) ((if (gI M7 p0 21) = 0 then
      f_X8_stay_67 p0 p1 p2 p3 p4 v2 v4 v6 p0 M7
    else
      f_X8_stay_67 p0 p1 p2 p3 p4 v2 v4 p5 p0 M7)))
  else
    (if p2 = v2 then
      ck (gK M5 p0 = 8) (nm (sI M5 p0 21 (0 : Int32)) fun M8 =>
      ck (gK M8 p0 = 8) ((if (gI M8 p0 21) = 0 then
        f_X8_stay_67 p0 p1 p2 p3 p4 v2 v4 v6 p0 M8
      else
        f_X8_stay_67 p0 p1 p2 p3 p4 v2 v4 p5 p0 M8)))
    else
      (if v4 = (2 : Int32) then
        ck (gK M5 p0 = 8) (nm (sI M5 p0 21 (0 : Int32)) fun M9 =>
        ck (gK M9 p0 = 8) ((if (gI M9 p0 21) = 0 then
          f_X8_stay_67 p0 p1 p2 p3 p4 v2 v4 v6 p0 M9
        else
          f_X8_stay_67 p0 p1 p2 p3 p4 v2 v4 p5 p0 M9)))
      else
        ck (gK M5 p0 = 8) (nm (sI M5 p0 21 (1 : Int32)) fun M10 =>
        ck (gK M10 p0 = 8) ((if (gI M10 p0 21) = 0 then
          f_X8_stay_67 p0 p1 p2 p3 p4 v2 v4 v6 p0 M10
        else
          f_X8_stay_67 p0 p1 p2 p3 p4 v2 v4 p5 p0 M10)))))))))
set_option maxRecDepth 20000 in
set_option maxHeartbeats 4000000 in
theorem t_X8_stay (p0 : Nat) (p1 : Int32) (p2 : Int32) (p3 : Int32) (p4 : Int32) (p5 : Int32) (M : Mm) (x : Int32) (M' : Mm) (h : f_X8_stay p0 p1 p2 p3 p4 p5 M = some (x, M')) : Ctr yX8_stay cX8_stay 10 (some .int) rX8_stay (fun _ => [.ref p0, .int p1, .int p2, .int p3, .int p4, .int p5]) M (zI x) M' := by
  refine ctr_of (plainFor_of_name (by decide)) (fun _ => Nat.le_of_ble_eq_true rfl) (fun z hz hin hq => ?_)
  have key : Sim z 0 [(0, .ref p0), (1, .int p1), (2, .int p2), (3, .int p3), (4, .int p4), (5, .int p5)] [] M 0 0 (f_X8_stay p0 p1 p2 p3 p4 p5 M) (fun a b => a = x ∧ b = M') := by
    have hq : Ret z zI (fun a b => a = x ∧ b = M') := fun a b e => by rw [e.1, e.2]; exact hq
    unfold f_X8_stay
    refine r_aload_n hz dX8_stay_0 0 rfl ?_
    refine r_iload_n hz dX8_stay_1 1 rfl ?_
    refine r_iconst (v := 3) hz dX8_stay_2 rfl ?_
    refine r_callVi (As := fun _ => [.int p1, .int (3 : Int32)]) cl8 hz (fun _ _ h => t_X8_loanOf _ _ _ _ _ _ h) cal_X8_loanOf dX8_stay_3 wm_6_68 wm_6_70 wm_p_66 rfl rfl (Nat.le_of_ble_eq_true rfl) ⟨(Nat.le_of_ble_eq_true rfl), (Nat.le_of_ble_eq_true rfl)⟩ ⟨(Nat.le_of_ble_eq_true rfl), (Nat.le_of_ble_eq_true rfl)⟩ (fun v2 M1 => ?_)
    refine r_istore (lv' := [(6, .int v2), (0, .ref p0), (1, .int p1), (2, .int p2), (3, .int p3), (4, .int p4), (5, .int p5)]) hz dX8_stay_6 (by decide) rfl ?_
    refine r_aload_n hz dX8_stay_8 1 rfl ?_
    refine r_iload_n hz dX8_stay_9 2 rfl ?_
    refine r_iconst (v := 4) hz dX8_stay_10 rfl ?_
    refine r_callVi (As := fun _ => [.int p1, .int (4 : Int32)]) cl8 hz (fun _ _ h => t_X8_loanOf _ _ _ _ _ _ h) cal_X8_loanOf dX8_stay_11 wm_6_68 wm_6_70 wm_p_66 rfl rfl (Nat.le_of_ble_eq_true rfl) ⟨(Nat.le_of_ble_eq_true rfl), (Nat.le_of_ble_eq_true rfl)⟩ ⟨(Nat.le_of_ble_eq_true rfl), (Nat.le_of_ble_eq_true rfl)⟩ (fun v4 M3 => ?_)
    refine r_istore (lv' := [(7, .int v4), (6, .int v2), (0, .ref p0), (1, .int p1), (2, .int p2), (3, .int p3), (4, .int p4), (5, .int p5)]) hz dX8_stay_14 (by decide) rfl ?_
    refine r_aload_n hz dX8_stay_16 2 rfl ?_
    refine r_iload_n hz dX8_stay_17 3 rfl ?_
    refine r_iconst (v := 1) hz dX8_stay_18 rfl ?_
    refine r_callVi (As := fun _ => [.int p1, .int (1 : Int32)]) cl8 hz (fun _ _ h => t_X8_loanOf _ _ _ _ _ _ h) cal_X8_loanOf dX8_stay_19 wm_6_68 wm_6_70 wm_p_66 rfl rfl (Nat.le_of_ble_eq_true rfl) ⟨(Nat.le_of_ble_eq_true rfl), (Nat.le_of_ble_eq_true rfl)⟩ ⟨(Nat.le_of_ble_eq_true rfl), (Nat.le_of_ble_eq_true rfl)⟩ (fun v6 M5 => ?_)
    refine r_istore (lv' := [(8, .int v6), (7, .int v4), (6, .int v2), (0, .ref p0), (1, .int p1), (2, .int p2), (3, .int p3), (4, .int p4), (5, .int p5)]) hz dX8_stay_22 (by decide) rfl ?_
    refine r_aload_n hz dX8_stay_24 3 rfl ?_
    refine r_iload hz dX8_stay_25 8 rfl ?_
    refine r_iload hz dX8_stay_27 0 rfl ?_
    refine r_icmp_ge (tgt := 48) hz dX8_stay_29 rfl ?_ ?_
    · refine r_iconst (v := 0) hz dX8_stay_48 rfl ?_
      refine r_putI (j := 21) cl8 hz dX8_stay_49 (by decide) wm_5_77 (Or.inl rfl) rfl rfl rfl ?_
      refine r_nmM (fun M7 => ?_)
      refine r_aload_n hz dX8_stay_52 3 rfl ?_
      refine r_aload_n hz dX8_stay_53 3 rfl ?_
      refine r_getI (j := 21) cl8 hz dX8_stay_54 (by decide) wm_5_77 rfl ?_
      refine r_if_eq (tgt := 65) hz dX8_stay_57 rfl ?_ ?_
      · refine r_iload hz dX8_stay_65 0 rfl ?_
        refine r_sub [3, 4, 5, 6, 7, 2, 1] rfl ?_
        exact s_X8_stay_67 hz hq p0 p1 p2 p3 p4 v2 v4 v6 p0 M7
      · refine r_iload hz dX8_stay_60 8 rfl ?_
        refine r_goto (tgt := 67) hz dX8_stay_62 rfl ?_
        refine r_sub [3, 4, 5, 6, 7, 2, 1] rfl ?_
        exact s_X8_stay_67 hz hq p0 p1 p2 p3 p4 v2 v4 p5 p0 M7
    · refine r_iload_n hz dX8_stay_32 5 rfl ?_
      refine r_iload hz dX8_stay_33 2 rfl ?_
      refine r_icmp_eq (tgt := 48) hz dX8_stay_35 rfl ?_ ?_
      · refine r_iconst (v := 0) hz dX8_stay_48 rfl ?_
        refine r_putI (j := 21) cl8 hz dX8_stay_49 (by decide) wm_5_77 (Or.inl rfl) rfl rfl rfl ?_
        refine r_nmM (fun M8 => ?_)
        refine r_aload_n hz dX8_stay_52 3 rfl ?_
        refine r_aload_n hz dX8_stay_53 3 rfl ?_
        refine r_getI (j := 21) cl8 hz dX8_stay_54 (by decide) wm_5_77 rfl ?_
        refine r_if_eq (tgt := 65) hz dX8_stay_57 rfl ?_ ?_
        · refine r_iload hz dX8_stay_65 0 rfl ?_
          refine r_sub [3, 4, 5, 6, 7, 2, 1] rfl ?_
          exact s_X8_stay_67 hz hq p0 p1 p2 p3 p4 v2 v4 v6 p0 M8
        · refine r_iload hz dX8_stay_60 8 rfl ?_
          refine r_goto (tgt := 67) hz dX8_stay_62 rfl ?_
          refine r_sub [3, 4, 5, 6, 7, 2, 1] rfl ?_
          exact s_X8_stay_67 hz hq p0 p1 p2 p3 p4 v2 v4 p5 p0 M8
      · refine r_iload hz dX8_stay_38 1 rfl ?_
        refine r_iconst (v := 2) hz dX8_stay_40 rfl ?_
        refine r_icmp_eq (tgt := 48) hz dX8_stay_41 rfl ?_ ?_
        · refine r_iconst (v := 0) hz dX8_stay_48 rfl ?_
          refine r_putI (j := 21) cl8 hz dX8_stay_49 (by decide) wm_5_77 (Or.inl rfl) rfl rfl rfl ?_
          refine r_nmM (fun M9 => ?_)
          refine r_aload_n hz dX8_stay_52 3 rfl ?_
          refine r_aload_n hz dX8_stay_53 3 rfl ?_
          refine r_getI (j := 21) cl8 hz dX8_stay_54 (by decide) wm_5_77 rfl ?_
          refine r_if_eq (tgt := 65) hz dX8_stay_57 rfl ?_ ?_
          · refine r_iload hz dX8_stay_65 0 rfl ?_
            refine r_sub [3, 4, 5, 6, 7, 2, 1] rfl ?_
            exact s_X8_stay_67 hz hq p0 p1 p2 p3 p4 v2 v4 v6 p0 M9
          · refine r_iload hz dX8_stay_60 8 rfl ?_
            refine r_goto (tgt := 67) hz dX8_stay_62 rfl ?_
            refine r_sub [3, 4, 5, 6, 7, 2, 1] rfl ?_
            exact s_X8_stay_67 hz hq p0 p1 p2 p3 p4 v2 v4 p5 p0 M9
        · refine r_iconst (v := 1) hz dX8_stay_44 rfl ?_
          refine r_goto (tgt := 49) hz dX8_stay_45 rfl ?_
          refine r_putI (j := 21) cl8 hz dX8_stay_49 (by decide) wm_5_77 (Or.inl rfl) rfl rfl rfl ?_
          refine r_nmM (fun M10 => ?_)
          refine r_aload_n hz dX8_stay_52 3 rfl ?_
          refine r_aload_n hz dX8_stay_53 3 rfl ?_
          refine r_getI (j := 21) cl8 hz dX8_stay_54 (by decide) wm_5_77 rfl ?_
          refine r_if_eq (tgt := 65) hz dX8_stay_57 rfl ?_ ?_
          · refine r_iload hz dX8_stay_65 0 rfl ?_
            refine r_sub [3, 4, 5, 6, 7, 2, 1] rfl ?_
            exact s_X8_stay_67 hz hq p0 p1 p2 p3 p4 v2 v4 v6 p0 M10
          · refine r_iload hz dX8_stay_60 8 rfl ?_
            refine r_goto (tgt := 67) hz dX8_stay_62 rfl ?_
            refine r_sub [3, 4, 5, 6, 7, 2, 1] rfl ?_
            exact s_X8_stay_67 hz hq p0 p1 p2 p3 p4 v2 v4 p5 p0 M10
  exact key x M' h ⟨rfl, rfl⟩
theorem dX8_pays_0 : decode cX8_pays 0 = .ok (.iload_n 1, 1) := by decide +kernel
theorem dX8_pays_1 : decode cX8_pays 1 = .ok (.ifCond .ge 4, 3) := by decide +kernel
theorem dX8_pays_4 : decode cX8_pays 4 = .ok (.return_, 1) := by decide +kernel
theorem dX8_pays_5 : decode cX8_pays 5 = .ok (.aload_n 0, 1) := by decide +kernel
theorem dX8_pays_6 : decode cX8_pays 6 = .ok (.getfield 20, 3) := by decide +kernel
theorem dX8_pays_9 : decode cX8_pays 9 = .ok (.sipush 1200, 3) := by decide +kernel
theorem dX8_pays_12 : decode cX8_pays 12 = .ok (.iload_n 1, 1) := by decide +kernel
theorem dX8_pays_13 : decode cX8_pays 13 = .ok (.iadd, 1) := by decide +kernel
theorem dX8_pays_14 : decode cX8_pays 14 = .ok (.iaload, 1) := by decide +kernel
theorem dX8_pays_15 : decode cX8_pays 15 = .ok (.i2l, 1) := by decide +kernel
theorem dX8_pays_16 : decode cX8_pays 16 = .ok (.iload_n 2, 1) := by decide +kernel
theorem dX8_pays_17 : decode cX8_pays 17 = .ok (.i2l, 1) := by decide +kernel
theorem dX8_pays_18 : decode cX8_pays 18 = .ok (.ladd, 1) := by decide +kernel
theorem dX8_pays_19 : decode cX8_pays 19 = .ok (.lstore_n 3, 1) := by decide +kernel
theorem dX8_pays_20 : decode cX8_pays 20 = .ok (.aload_n 0, 1) := by decide +kernel
theorem dX8_pays_21 : decode cX8_pays 21 = .ok (.getfield 20, 3) := by decide +kernel
theorem dX8_pays_24 : decode cX8_pays 24 = .ok (.sipush 1200, 3) := by decide +kernel
theorem dX8_pays_27 : decode cX8_pays 27 = .ok (.iload_n 1, 1) := by decide +kernel
theorem dX8_pays_28 : decode cX8_pays 28 = .ok (.iadd, 1) := by decide +kernel
theorem dX8_pays_29 : decode cX8_pays 29 = .ok (.lload_n 3, 1) := by decide +kernel
theorem dX8_pays_30 : decode cX8_pays 30 = .ok (.ldc2_w 271, 3) := by decide +kernel
theorem dX8_pays_33 : decode cX8_pays 33 = .ok (.lcmp, 1) := by decide +kernel
theorem dX8_pays_34 : decode cX8_pays 34 = .ok (.ifCond .le 9, 3) := by decide +kernel
theorem dX8_pays_37 : decode cX8_pays 37 = .ok (.ldc_w 273, 3) := by decide +kernel
theorem dX8_pays_40 : decode cX8_pays 40 = .ok (.goto 5, 3) := by decide +kernel
theorem dX8_pays_43 : decode cX8_pays 43 = .ok (.lload_n 3, 1) := by decide +kernel
theorem dX8_pays_44 : decode cX8_pays 44 = .ok (.l2i, 1) := by decide +kernel
theorem dX8_pays_45 : decode cX8_pays 45 = .ok (.iastore, 1) := by decide +kernel
theorem dX8_pays_46 : decode cX8_pays 46 = .ok (.return_, 1) := by decide +kernel
abbrev rX8_pays : Room := { frames := 0, cells := 0, slots := 0, locals := 0 }
theorem cal_X8_pays : CalOk yX8_pays cX8_pays 5 none 2 := ⟨wm_6_136, wm_1_9, by decide, by decide, by decide +kernel⟩
def f_X8_pays (p0 : Nat) (p1 : Int32) (p2 : Int32) (M : Mm) : Option (Unit × Mm) :=
  (if 0 ≤ p1 then
    ck (gK M p0 = 8) (bR (gR M p0 17) fun q1 => ck (gK M q1 = 10 ∧ inb ((1200 : Int32) + p1) (gN M q1)) (nm (((gI M q1 (((1200 : Int32) + p1)).toNatClampNeg)).toInt64 + (p2).toInt64) fun v2 =>
    ck (gK M p0 = 8) (bR (gR M p0 17) fun q3 => (if v2 ≤ (1000000000 : Int64) then
      ck (gK M q3 = 10 ∧ inb ((1200 : Int32) + p1) (gN M q3)) (nm (sI M q3 (((1200 : Int32) + p1)).toNatClampNeg (v2).toInt32) fun M4 =>
      some ((), M4))
    else
      ck (gK M q3 = 10 ∧ inb ((1200 : Int32) + p1) (gN M q3)) (nm (sI M q3 (((1200 : Int32) + p1)).toNatClampNeg (1000000000 : Int32)) fun M5 =>
      some ((), M5))))))
  else
    some ((), M))
set_option maxRecDepth 20000 in
set_option maxHeartbeats 4000000 in
theorem t_X8_pays (p0 : Nat) (p1 : Int32) (p2 : Int32) (M : Mm) (x : Unit) (M' : Mm) (h : f_X8_pays p0 p1 p2 M = some (x, M')) : Ctr yX8_pays cX8_pays 5 none rX8_pays (fun _ => [.ref p0, .int p1, .int p2]) M (zU x) M' := by
  refine ctr_of (plainFor_of_name (by decide)) (fun _ => Nat.le_of_ble_eq_true rfl) (fun z hz hin hq => ?_)
  have key : Sim z 0 [(0, .ref p0), (1, .int p1), (2, .int p2)] [] M 0 0 (f_X8_pays p0 p1 p2 M) (fun a b => a = x ∧ b = M') := by
    have hq : Ret z zU (fun a b => a = x ∧ b = M') := fun a b e => by rw [e.1, e.2]; exact hq
    unfold f_X8_pays
    refine r_iload_n hz dX8_pays_0 1 rfl ?_
    refine r_if_ge (tgt := 5) hz dX8_pays_1 rfl ?_ ?_
    · refine r_aload_n hz dX8_pays_5 0 rfl ?_
      refine r_getR (j := 17) cl8 hz dX8_pays_6 (by decide) wm_5_73 rfl (fun q1 => ?_)
      refine r_sipush (v := 1200) hz dX8_pays_9 rfl ?_
      refine r_iload_n hz dX8_pays_12 1 rfl ?_
      refine r_iadd hz dX8_pays_13 ?_
      refine r_iald hz dX8_pays_14 ?_
      refine r_i2l hz dX8_pays_15 ?_
      refine r_iload_n hz dX8_pays_16 2 rfl ?_
      refine r_i2l hz dX8_pays_17 ?_
      refine r_ladd hz dX8_pays_18 ?_
      refine r_nml (fun v2 => ?_)
      refine r_lstore_n (lv' := [(3, .long v2), (0, .ref p0), (1, .int p1), (2, .int p2)]) hz dX8_pays_19 (by decide) rfl ?_
      refine r_aload_n hz dX8_pays_20 1 rfl ?_
      refine r_getR (j := 17) cl8 hz dX8_pays_21 (by decide) wm_5_73 rfl (fun q3 => ?_)
      refine r_sipush (v := 1200) hz dX8_pays_24 rfl ?_
      refine r_iload_n hz dX8_pays_27 2 rfl ?_
      refine r_iadd hz dX8_pays_28 ?_
      refine r_lload_n hz dX8_pays_29 0 rfl ?_
      refine r_ldc2 (v := 1000000000) hz dX8_pays_30 wm_6_137 ?_
      refine r_lcmp_le (tgt := 43) hz dX8_pays_33 dX8_pays_34 rfl ?_ ?_
      · refine r_lload_n hz dX8_pays_43 0 rfl ?_
        refine r_l2i hz dX8_pays_44 ?_
        refine r_iast hz dX8_pays_45 ?_
        refine r_nmM (fun M4 => ?_)
        exact r_vret hz hq dX8_pays_46 (Nat.le_of_ble_eq_true rfl) (Nat.le_of_ble_eq_true rfl)
      · refine r_ldcw (v := 1000000000) hz dX8_pays_37 wm_6_138 ?_
        refine r_goto (tgt := 45) hz dX8_pays_40 rfl ?_
        refine r_iast hz dX8_pays_45 ?_
        refine r_nmM (fun M5 => ?_)
        exact r_vret hz hq dX8_pays_46 (Nat.le_of_ble_eq_true rfl) (Nat.le_of_ble_eq_true rfl)
    · exact r_vret hz hq dX8_pays_4 (Nat.le_of_ble_eq_true rfl) (Nat.le_of_ble_eq_true rfl)
  exact key x M' h ⟨rfl, rfl⟩
theorem dX8_prizeOf_0 : decode cX8_prizeOf 0 = .ok (.iload_n 2, 1) := by decide +kernel
theorem dX8_prizeOf_1 : decode cX8_prizeOf 1 = .ok (.bipush 9, 2) := by decide +kernel
theorem dX8_prizeOf_3 : decode cX8_prizeOf 3 = .ok (.if_icmp .gt 20, 3) := by decide +kernel
theorem dX8_prizeOf_6 : decode cX8_prizeOf 6 = .ok (.aload_n 0, 1) := by decide +kernel
theorem dX8_prizeOf_7 : decode cX8_prizeOf 7 = .ok (.getfield 13, 3) := by decide +kernel
theorem dX8_prizeOf_10 : decode cX8_prizeOf 10 = .ok (.bipush 40, 2) := by decide +kernel
theorem dX8_prizeOf_12 : decode cX8_prizeOf 12 = .ok (.bipush 10, 2) := by decide +kernel
theorem dX8_prizeOf_14 : decode cX8_prizeOf 14 = .ok (.iload_n 1, 1) := by decide +kernel
theorem dX8_prizeOf_15 : decode cX8_prizeOf 15 = .ok (.imul, 1) := by decide +kernel
theorem dX8_prizeOf_16 : decode cX8_prizeOf 16 = .ok (.iadd, 1) := by decide +kernel
theorem dX8_prizeOf_17 : decode cX8_prizeOf 17 = .ok (.iload_n 2, 1) := by decide +kernel
theorem dX8_prizeOf_18 : decode cX8_prizeOf 18 = .ok (.iadd, 1) := by decide +kernel
theorem dX8_prizeOf_19 : decode cX8_prizeOf 19 = .ok (.iaload, 1) := by decide +kernel
theorem dX8_prizeOf_20 : decode cX8_prizeOf 20 = .ok (.goto 4, 3) := by decide +kernel
theorem dX8_prizeOf_23 : decode cX8_prizeOf 23 = .ok (.iconst 0, 1) := by decide +kernel
theorem dX8_prizeOf_24 : decode cX8_prizeOf 24 = .ok (.ireturn, 1) := by decide +kernel
abbrev rX8_prizeOf : Room := { frames := 0, cells := 0, slots := 0, locals := 0 }
theorem cal_X8_prizeOf : CalOk yX8_prizeOf cX8_prizeOf 3 (some .int) 2 := ⟨wm_6_167, wm_1_9, by decide, by decide, by decide +kernel⟩
def f_X8_prizeOf (p0 : Nat) (p1 : Int32) (p2 : Int32) (M : Mm) : Option (Int32 × Mm) :=
  (if (9 : Int32) < p2 then
    some ((0 : Int32), M)
  else
    ck (gK M p0 = 8) (bR (gR M p0 11) fun q1 => ck (gK M q1 = 10 ∧ inb (((40 : Int32) + ((10 : Int32) * p1)) + p2) (gN M q1)) (some ((gI M q1 ((((40 : Int32) + ((10 : Int32) * p1)) + p2)).toNatClampNeg), M))))
set_option maxRecDepth 20000 in
set_option maxHeartbeats 4000000 in
theorem t_X8_prizeOf (p0 : Nat) (p1 : Int32) (p2 : Int32) (M : Mm) (x : Int32) (M' : Mm) (h : f_X8_prizeOf p0 p1 p2 M = some (x, M')) : Ctr yX8_prizeOf cX8_prizeOf 3 (some .int) rX8_prizeOf (fun _ => [.ref p0, .int p1, .int p2]) M (zI x) M' := by
  refine ctr_of (plainFor_of_name (by decide)) (fun _ => Nat.le_of_ble_eq_true rfl) (fun z hz hin hq => ?_)
  have key : Sim z 0 [(0, .ref p0), (1, .int p1), (2, .int p2)] [] M 0 0 (f_X8_prizeOf p0 p1 p2 M) (fun a b => a = x ∧ b = M') := by
    have hq : Ret z zI (fun a b => a = x ∧ b = M') := fun a b e => by rw [e.1, e.2]; exact hq
    unfold f_X8_prizeOf
    refine r_iload_n hz dX8_prizeOf_0 2 rfl ?_
    refine r_bipush (v := 9) hz dX8_prizeOf_1 rfl ?_
    refine r_icmp_gt (tgt := 23) hz dX8_prizeOf_3 rfl ?_ ?_
    · refine r_iconst (v := 0) hz dX8_prizeOf_23 rfl ?_
      exact r_iret hz hq dX8_prizeOf_24 (Nat.le_of_ble_eq_true rfl) (Nat.le_of_ble_eq_true rfl)
    · refine r_aload_n hz dX8_prizeOf_6 0 rfl ?_
      refine r_getR (j := 11) cl8 hz dX8_prizeOf_7 (by decide) wm_5_67 rfl (fun q1 => ?_)
      refine r_bipush (v := 40) hz dX8_prizeOf_10 rfl ?_
      refine r_bipush (v := 10) hz dX8_prizeOf_12 rfl ?_
      refine r_iload_n hz dX8_prizeOf_14 1 rfl ?_
      refine r_imul hz dX8_prizeOf_15 ?_
      refine r_iadd hz dX8_prizeOf_16 ?_
      refine r_iload_n hz dX8_prizeOf_17 2 rfl ?_
      refine r_iadd hz dX8_prizeOf_18 ?_
      refine r_iald hz dX8_prizeOf_19 ?_
      refine r_goto (tgt := 24) hz dX8_prizeOf_20 rfl ?_
      exact r_iret hz hq dX8_prizeOf_24 (Nat.le_of_ble_eq_true rfl) (Nat.le_of_ble_eq_true rfl)
  exact key x M' h ⟨rfl, rfl⟩
theorem dX8_owedFor_0 : decode cX8_owedFor 0 = .ok (.aload_n 0, 1) := by decide +kernel
theorem dX8_owedFor_1 : decode cX8_owedFor 1 = .ok (.iload_n 1, 1) := by decide +kernel
theorem dX8_owedFor_2 : decode cX8_owedFor 2 = .ok (.iconst 1, 1) := by decide +kernel
theorem dX8_owedFor_3 : decode cX8_owedFor 3 = .ok (.invokevirtual 225, 3) := by decide +kernel
theorem dX8_owedFor_6 : decode cX8_owedFor 6 = .ok (.aload_n 0, 1) := by decide +kernel
theorem dX8_owedFor_7 : decode cX8_owedFor 7 = .ok (.iload_n 1, 1) := by decide +kernel
theorem dX8_owedFor_8 : decode cX8_owedFor 8 = .ok (.aload_n 0, 1) := by decide +kernel
theorem dX8_owedFor_9 : decode cX8_owedFor 9 = .ok (.getfield 20, 3) := by decide +kernel
theorem dX8_owedFor_12 : decode cX8_owedFor 12 = .ok (.sipush 720, 3) := by decide +kernel
theorem dX8_owedFor_15 : decode cX8_owedFor 15 = .ok (.iload_n 1, 1) := by decide +kernel
theorem dX8_owedFor_16 : decode cX8_owedFor 16 = .ok (.iload_n 2, 1) := by decide +kernel
theorem dX8_owedFor_17 : decode cX8_owedFor 17 = .ok (.invokestatic 229, 3) := by decide +kernel
theorem dX8_owedFor_20 : decode cX8_owedFor 20 = .ok (.iadd, 1) := by decide +kernel
theorem dX8_owedFor_21 : decode cX8_owedFor 21 = .ok (.iaload, 1) := by decide +kernel
theorem dX8_owedFor_22 : decode cX8_owedFor 22 = .ok (.invokevirtual 274, 3) := by decide +kernel
theorem dX8_owedFor_25 : decode cX8_owedFor 25 = .ok (.iadd, 1) := by decide +kernel
theorem dX8_owedFor_26 : decode cX8_owedFor 26 = .ok (.ireturn, 1) := by decide +kernel
abbrev rX8_owedFor : Room := { frames := 1, cells := 0, slots := 0, locals := 22 }
theorem cal_X8_owedFor : CalOk yX8_owedFor cX8_owedFor 3 (some .int) 2 := ⟨wm_6_163, wm_1_9, by decide, by decide, by decide +kernel⟩
def f_X8_owedFor (p0 : Nat) (p1 : Int32) (p2 : Int32) (M : Mm) : Option (Int32 × Mm) :=
  ck (gK M p0 = 8) (bd (f_X8_loanOf p0 p1 (1 : Int32) M) fun v2 M1 =>
  ck (gK M1 p0 = 8) (bR (gR M1 p0 17) fun q3 => bd (f_X8_bondAt p1 p2 M1) fun v5 M4 =>
  ck (gK M4 q3 = 10 ∧ inb ((720 : Int32) + v5) (gN M4 q3)) (ck (gK M4 p0 = 8) (bd (f_X8_prizeOf p0 p1 (gI M4 q3 (((720 : Int32) + v5)).toNatClampNeg) M4) fun v7 M6 =>
  some ((v2 + v7), M6)))))
set_option maxRecDepth 20000 in
set_option maxHeartbeats 4000000 in
theorem t_X8_owedFor (p0 : Nat) (p1 : Int32) (p2 : Int32) (M : Mm) (x : Int32) (M' : Mm) (h : f_X8_owedFor p0 p1 p2 M = some (x, M')) : Ctr yX8_owedFor cX8_owedFor 3 (some .int) rX8_owedFor (fun _ => [.ref p0, .int p1, .int p2]) M (zI x) M' := by
  refine ctr_of (plainFor_of_name (by decide)) (fun _ => Nat.le_of_ble_eq_true rfl) (fun z hz hin hq => ?_)
  have key : Sim z 0 [(0, .ref p0), (1, .int p1), (2, .int p2)] [] M 0 0 (f_X8_owedFor p0 p1 p2 M) (fun a b => a = x ∧ b = M') := by
    have hq : Ret z zI (fun a b => a = x ∧ b = M') := fun a b e => by rw [e.1, e.2]; exact hq
    unfold f_X8_owedFor
    refine r_aload_n hz dX8_owedFor_0 0 rfl ?_
    refine r_iload_n hz dX8_owedFor_1 1 rfl ?_
    refine r_iconst (v := 1) hz dX8_owedFor_2 rfl ?_
    refine r_callVi (As := fun _ => [.int p1, .int (1 : Int32)]) cl8 hz (fun _ _ h => t_X8_loanOf _ _ _ _ _ _ h) cal_X8_loanOf dX8_owedFor_3 wm_6_68 wm_6_70 wm_p_66 rfl rfl (Nat.le_of_ble_eq_true rfl) ⟨(Nat.le_of_ble_eq_true rfl), (Nat.le_of_ble_eq_true rfl)⟩ ⟨(Nat.le_of_ble_eq_true rfl), (Nat.le_of_ble_eq_true rfl)⟩ (fun v2 M1 => ?_)
    refine r_aload_n hz dX8_owedFor_6 0 rfl ?_
    refine r_iload_n hz dX8_owedFor_7 1 rfl ?_
    refine r_aload_n hz dX8_owedFor_8 0 rfl ?_
    refine r_getR (j := 17) cl8 hz dX8_owedFor_9 (by decide) wm_5_73 rfl (fun q3 => ?_)
    refine r_sipush (v := 720) hz dX8_owedFor_12 rfl ?_
    refine r_iload_n hz dX8_owedFor_15 1 rfl ?_
    refine r_iload_n hz dX8_owedFor_16 2 rfl ?_
    refine r_callSi (As := fun _ => [.int p1, .int p2]) hz (fun _ _ h => t_X8_bondAt _ _ _ _ _ h) cal_X8_bondAt dX8_owedFor_17 wm_6_72 wm_6_73 rfl rfl (Nat.le_of_ble_eq_true rfl) ⟨(Nat.le_of_ble_eq_true rfl), (Nat.le_of_ble_eq_true rfl)⟩ ⟨(Nat.le_of_ble_eq_true rfl), (Nat.le_of_ble_eq_true rfl)⟩ (fun v5 M4 => ?_)
    refine r_iadd hz dX8_owedFor_20 ?_
    refine r_iald hz dX8_owedFor_21 ?_
    refine r_callVi (As := fun _ => [.int p1, .int (gI M4 q3 (((720 : Int32) + v5)).toNatClampNeg)]) cl8 hz (fun _ _ h => t_X8_prizeOf _ _ _ _ _ _ h) cal_X8_prizeOf dX8_owedFor_22 wm_6_164 wm_6_166 wm_p_80 rfl rfl (Nat.le_of_ble_eq_true rfl) ⟨(Nat.le_of_ble_eq_true rfl), (Nat.le_of_ble_eq_true rfl)⟩ ⟨(Nat.le_of_ble_eq_true rfl), (Nat.le_of_ble_eq_true rfl)⟩ (fun v7 M6 => ?_)
    refine r_iadd hz dX8_owedFor_25 ?_
    exact r_iret hz hq dX8_owedFor_26 (Nat.le_of_ble_eq_true rfl) (Nat.le_of_ble_eq_true rfl)
  exact key x M' h ⟨rfl, rfl⟩
theorem dX8_turns_0 : decode cX8_turns 0 = .ok (.ldc2_w 277, 3) := by decide +kernel
theorem dX8_turns_3 : decode cX8_turns 3 = .ok (.iload_n 0, 1) := by decide +kernel
theorem dX8_turns_4 : decode cX8_turns 4 = .ok (.i2l, 1) := by decide +kernel
theorem dX8_turns_5 : decode cX8_turns 5 = .ok (.lmul, 1) := by decide +kernel
theorem dX8_turns_6 : decode cX8_turns 6 = .ok (.ldc2_w 279, 3) := by decide +kernel
theorem dX8_turns_9 : decode cX8_turns 9 = .ok (.lrem, 1) := by decide +kernel
theorem dX8_turns_10 : decode cX8_turns 10 = .ok (.l2i, 1) := by decide +kernel
theorem dX8_turns_11 : decode cX8_turns 11 = .ok (.ireturn, 1) := by decide +kernel
abbrev rX8_turns : Room := { frames := 0, cells := 0, slots := 0, locals := 0 }
theorem cal_X8_turns : CalOk yX8_turns cX8_turns 1 (some .int) 1 := ⟨wm_6_145, wm_1_9, by decide, by decide, by decide +kernel⟩
def f_X8_turns (p0 : Int32) (M : Mm) : Option (Int32 × Mm) :=
  ck (¬ (2147483647 : Int64) = 0) (some (((((48271 : Int64) * (p0).toInt64) - ((48271 : Int64) * (p0).toInt64) / (2147483647 : Int64) * (2147483647 : Int64))).toInt32, M))
set_option maxRecDepth 20000 in
set_option maxHeartbeats 4000000 in
theorem t_X8_turns (p0 : Int32) (M : Mm) (x : Int32) (M' : Mm) (h : f_X8_turns p0 M = some (x, M')) : Ctr yX8_turns cX8_turns 1 (some .int) rX8_turns (fun _ => [.int p0]) M (zI x) M' := by
  refine ctr_of (plainFor_of_name (by decide)) (fun _ => Nat.le_of_ble_eq_true rfl) (fun z hz hin hq => ?_)
  have key : Sim z 0 [(0, .int p0)] [] M 0 0 (f_X8_turns p0 M) (fun a b => a = x ∧ b = M') := by
    have hq : Ret z zI (fun a b => a = x ∧ b = M') := fun a b e => by rw [e.1, e.2]; exact hq
    unfold f_X8_turns
    refine r_ldc2 (v := 48271) hz dX8_turns_0 wm_6_146 ?_
    refine r_iload_n hz dX8_turns_3 0 rfl ?_
    refine r_i2l hz dX8_turns_4 ?_
    refine r_lmul hz dX8_turns_5 ?_
    refine r_ldc2 (v := 2147483647) hz dX8_turns_6 wm_6_147 ?_
    refine r_lrem hz dX8_turns_9 ?_
    refine r_l2i hz dX8_turns_10 ?_
    exact r_iret hz hq dX8_turns_11 (Nat.le_of_ble_eq_true rfl) (Nat.le_of_ble_eq_true rfl)
  exact key x M' h ⟨rfl, rfl⟩
theorem dX8_atPlace_0 : decode cX8_atPlace 0 = .ok (.iload_n 2, 1) := by decide +kernel
theorem dX8_atPlace_1 : decode cX8_atPlace 1 = .ok (.istore_n 3, 1) := by decide +kernel
theorem dX8_atPlace_2 : decode cX8_atPlace 2 = .ok (.iconst 0, 1) := by decide +kernel
theorem dX8_atPlace_3 : decode cX8_atPlace 3 = .ok (.istore 4, 2) := by decide +kernel
theorem dX8_atPlace_5 : decode cX8_atPlace 5 = .ok (.iinc 4 1, 3) := by decide +kernel
theorem dX8_atPlace_8 : decode cX8_atPlace 8 = .ok (.iload_n 3, 1) := by decide +kernel
theorem dX8_atPlace_9 : decode cX8_atPlace 9 = .ok (.aload_n 0, 1) := by decide +kernel
theorem dX8_atPlace_10 : decode cX8_atPlace 10 = .ok (.getfield 20, 3) := by decide +kernel
theorem dX8_atPlace_13 : decode cX8_atPlace 13 = .ok (.iconst 0, 1) := by decide +kernel
theorem dX8_atPlace_14 : decode cX8_atPlace 14 = .ok (.iload_n 1, 1) := by decide +kernel
theorem dX8_atPlace_15 : decode cX8_atPlace 15 = .ok (.iload 4, 2) := by decide +kernel
theorem dX8_atPlace_17 : decode cX8_atPlace 17 = .ok (.invokestatic 229, 3) := by decide +kernel
theorem dX8_atPlace_20 : decode cX8_atPlace 20 = .ok (.iadd, 1) := by decide +kernel
theorem dX8_atPlace_21 : decode cX8_atPlace 21 = .ok (.iaload, 1) := by decide +kernel
theorem dX8_atPlace_22 : decode cX8_atPlace 22 = .ok (.ifCond .ne 7, 3) := by decide +kernel
theorem dX8_atPlace_25 : decode cX8_atPlace 25 = .ok (.iconst 1, 1) := by decide +kernel
theorem dX8_atPlace_26 : decode cX8_atPlace 26 = .ok (.goto 4, 3) := by decide +kernel
theorem dX8_atPlace_29 : decode cX8_atPlace 29 = .ok (.iconst 0, 1) := by decide +kernel
theorem dX8_atPlace_30 : decode cX8_atPlace 30 = .ok (.isub, 1) := by decide +kernel
theorem dX8_atPlace_31 : decode cX8_atPlace 31 = .ok (.istore_n 3, 1) := by decide +kernel
theorem dX8_atPlace_32 : decode cX8_atPlace 32 = .ok (.iload_n 3, 1) := by decide +kernel
theorem dX8_atPlace_33 : decode cX8_atPlace 33 = .ok (.ifCond .ge (-28), 3) := by decide +kernel
theorem dX8_atPlace_36 : decode cX8_atPlace 36 = .ok (.iload 4, 2) := by decide +kernel
theorem dX8_atPlace_38 : decode cX8_atPlace 38 = .ok (.ireturn, 1) := by decide +kernel
abbrev rX8_atPlace : Room := { frames := 1, cells := 0, slots := 0, locals := 21 }
theorem cal_X8_atPlace : CalOk yX8_atPlace cX8_atPlace 5 (some .int) 2 := ⟨wm_6_151, wm_1_9, by decide, by decide, by decide +kernel⟩
def f_X8_atPlace_5 : Nat → Nat → Int32 → Int32 → Int32 → Mm → Option (Int32 × Mm)
  | 0, _, _, _, _, _ => none
  | n + 1, x0, x1, x3, x4, M =>
    ck (gK M x0 = 8) (bR (gR M x0 17) fun q2 => bd (f_X8_bondAt x1 (x4 + (1 : Int32)) M) fun v4 M3 =>
    ck (gK M3 q2 = 10 ∧ inb ((0 : Int32) + v4) (gN M3 q2)) ((if ¬ (gI M3 q2 (((0 : Int32) + v4)).toNatClampNeg) = 0 then
      nm (x3 - (0 : Int32)) fun v5 =>
      (if 0 ≤ v5 then
        f_X8_atPlace_5 n x0 x1 v5 (x4 + (1 : Int32)) M3
      else
        some ((x4 + (1 : Int32)), M3))
    else
      nm (x3 - (1 : Int32)) fun v6 =>
      (if 0 ≤ v6 then
        f_X8_atPlace_5 n x0 x1 v6 (x4 + (1 : Int32)) M3
      else
        some ((x4 + (1 : Int32)), M3)))))
set_option maxRecDepth 20000 in
set_option maxHeartbeats 4000000 in
theorem s_X8_atPlace_5 {z : Zt} {K : Int32 → Mm → Prop} (hz : Good z RX8 cX8_atPlace 5 rX8_atPlace (some .int)) (hq : Ret z zI K) : ∀ (n : Nat) (x0 : Nat) (x1 : Int32) (x3 : Int32) (x4 : Int32) (M : Mm), Sim z 5 [(0, .ref x0), (1, .int x1), (3, .int x3), (4, .int x4)] [] M 0 0 (f_X8_atPlace_5 n x0 x1 x3 x4 M) K := by
  intro n
  induction n with
  | zero => exact fun _ _ _ _ _ => r_none
  | succ n ih =>
    intro x0 x1 x3 x4 M
    unfold f_X8_atPlace_5
    refine r_iinc (v := (x4 + (1 : Int32))) (lv' := [(4, .int (x4 + (1 : Int32))), (0, .ref x0), (1, .int x1), (3, .int x3)]) hz dX8_atPlace_5 3 rfl rfl (by decide) rfl ?_
    refine r_iload_n hz dX8_atPlace_8 3 rfl ?_
    refine r_aload_n hz dX8_atPlace_9 1 rfl ?_
    refine r_getR (j := 17) cl8 hz dX8_atPlace_10 (by decide) wm_5_73 rfl (fun q2 => ?_)
    refine r_iconst (v := 0) hz dX8_atPlace_13 rfl ?_
    refine r_iload_n hz dX8_atPlace_14 2 rfl ?_
    refine r_iload hz dX8_atPlace_15 0 rfl ?_
    refine r_callSi (As := fun _ => [.int x1, .int (x4 + (1 : Int32))]) hz (fun _ _ h => t_X8_bondAt _ _ _ _ _ h) cal_X8_bondAt dX8_atPlace_17 wm_6_72 wm_6_73 rfl rfl (Nat.le_of_ble_eq_true rfl) ⟨(Nat.le_of_ble_eq_true rfl), (Nat.le_of_ble_eq_true rfl)⟩ ⟨(Nat.le_of_ble_eq_true rfl), (Nat.le_of_ble_eq_true rfl)⟩ (fun v4 M3 => ?_)
    refine r_iadd hz dX8_atPlace_20 ?_
    refine r_iald hz dX8_atPlace_21 ?_
    refine r_if_ne (tgt := 29) hz dX8_atPlace_22 rfl ?_ ?_
    · refine r_iconst (v := 0) hz dX8_atPlace_29 rfl ?_
      refine r_isub hz dX8_atPlace_30 ?_
      refine r_nmi (fun v5 => ?_)
      refine r_istore_n (lv' := [(3, .int v5), (4, .int (x4 + (1 : Int32))), (0, .ref x0), (1, .int x1)]) hz dX8_atPlace_31 (by decide) rfl ?_
      refine r_iload_n hz dX8_atPlace_32 0 rfl ?_
      refine r_if_ge (tgt := 5) hz dX8_atPlace_33 rfl ?_ ?_
      · refine r_sub [2, 3, 0, 1] rfl ?_
        exact ih x0 x1 v5 (x4 + (1 : Int32)) M3
      · refine r_iload hz dX8_atPlace_36 1 rfl ?_
        exact r_iret hz hq dX8_atPlace_38 (Nat.le_of_ble_eq_true rfl) (Nat.le_of_ble_eq_true rfl)
    · refine r_iconst (v := 1) hz dX8_atPlace_25 rfl ?_
      refine r_goto (tgt := 30) hz dX8_atPlace_26 rfl ?_
      refine r_isub hz dX8_atPlace_30 ?_
      refine r_nmi (fun v6 => ?_)
      refine r_istore_n (lv' := [(3, .int v6), (4, .int (x4 + (1 : Int32))), (0, .ref x0), (1, .int x1)]) hz dX8_atPlace_31 (by decide) rfl ?_
      refine r_iload_n hz dX8_atPlace_32 0 rfl ?_
      refine r_if_ge (tgt := 5) hz dX8_atPlace_33 rfl ?_ ?_
      · refine r_sub [2, 3, 0, 1] rfl ?_
        exact ih x0 x1 v6 (x4 + (1 : Int32)) M3
      · refine r_iload hz dX8_atPlace_36 1 rfl ?_
        exact r_iret hz hq dX8_atPlace_38 (Nat.le_of_ble_eq_true rfl) (Nat.le_of_ble_eq_true rfl)
def f_X8_atPlace (p0 : Nat) (p1 : Int32) (p2 : Int32) (M : Mm) : Option (Int32 × Mm) :=
  f_X8_atPlace_5 FU p0 p1 p2 (0 : Int32) M
set_option maxRecDepth 20000 in
set_option maxHeartbeats 4000000 in
theorem t_X8_atPlace (p0 : Nat) (p1 : Int32) (p2 : Int32) (M : Mm) (x : Int32) (M' : Mm) (h : f_X8_atPlace p0 p1 p2 M = some (x, M')) : Ctr yX8_atPlace cX8_atPlace 5 (some .int) rX8_atPlace (fun _ => [.ref p0, .int p1, .int p2]) M (zI x) M' := by
  refine ctr_of (plainFor_of_name (by decide)) (fun _ => Nat.le_of_ble_eq_true rfl) (fun z hz hin hq => ?_)
  have key : Sim z 0 [(0, .ref p0), (1, .int p1), (2, .int p2)] [] M 0 0 (f_X8_atPlace p0 p1 p2 M) (fun a b => a = x ∧ b = M') := by
    have hq : Ret z zI (fun a b => a = x ∧ b = M') := fun a b e => by rw [e.1, e.2]; exact hq
    unfold f_X8_atPlace
    refine r_iload_n hz dX8_atPlace_0 2 rfl ?_
    refine r_istore_n (lv' := [(3, .int p2), (0, .ref p0), (1, .int p1), (2, .int p2)]) hz dX8_atPlace_1 (by decide) rfl ?_
    refine r_iconst (v := 0) hz dX8_atPlace_2 rfl ?_
    refine r_istore (lv' := [(4, .int (0 : Int32)), (3, .int p2), (0, .ref p0), (1, .int p1), (2, .int p2)]) hz dX8_atPlace_3 (by decide) rfl ?_
    refine r_sub [2, 3, 1, 0] rfl ?_
    exact s_X8_atPlace_5 hz hq FU p0 p1 p2 (0 : Int32) M
  exact key x M' h ⟨rfl, rfl⟩
theorem dX8_retires_0 : decode cX8_retires 0 = .ok (.iload_n 1, 1) := by decide +kernel
theorem dX8_retires_1 : decode cX8_retires 1 = .ok (.iload_n 2, 1) := by decide +kernel
theorem dX8_retires_2 : decode cX8_retires 2 = .ok (.invokestatic 229, 3) := by decide +kernel
theorem dX8_retires_5 : decode cX8_retires 5 = .ok (.istore 4, 2) := by decide +kernel
theorem dX8_retires_7 : decode cX8_retires 7 = .ok (.aload_n 0, 1) := by decide +kernel
theorem dX8_retires_8 : decode cX8_retires 8 = .ok (.getfield 20, 3) := by decide +kernel
theorem dX8_retires_11 : decode cX8_retires 11 = .ok (.sipush 480, 3) := by decide +kernel
theorem dX8_retires_14 : decode cX8_retires 14 = .ok (.iload 4, 2) := by decide +kernel
theorem dX8_retires_16 : decode cX8_retires 16 = .ok (.iadd, 1) := by decide +kernel
theorem dX8_retires_17 : decode cX8_retires 17 = .ok (.aload_n 0, 1) := by decide +kernel
theorem dX8_retires_18 : decode cX8_retires 18 = .ok (.getfield 20, 3) := by decide +kernel
theorem dX8_retires_21 : decode cX8_retires 21 = .ok (.sipush 1206, 3) := by decide +kernel
theorem dX8_retires_24 : decode cX8_retires 24 = .ok (.iaload, 1) := by decide +kernel
theorem dX8_retires_25 : decode cX8_retires 25 = .ok (.iastore, 1) := by decide +kernel
theorem dX8_retires_26 : decode cX8_retires 26 = .ok (.aload_n 0, 1) := by decide +kernel
theorem dX8_retires_27 : decode cX8_retires 27 = .ok (.getfield 20, 3) := by decide +kernel
theorem dX8_retires_30 : decode cX8_retires 30 = .ok (.sipush 720, 3) := by decide +kernel
theorem dX8_retires_33 : decode cX8_retires 33 = .ok (.iload 4, 2) := by decide +kernel
theorem dX8_retires_35 : decode cX8_retires 35 = .ok (.iadd, 1) := by decide +kernel
theorem dX8_retires_36 : decode cX8_retires 36 = .ok (.iload_n 3, 1) := by decide +kernel
theorem dX8_retires_37 : decode cX8_retires 37 = .ok (.iastore, 1) := by decide +kernel
theorem dX8_retires_38 : decode cX8_retires 38 = .ok (.aload_n 0, 1) := by decide +kernel
theorem dX8_retires_39 : decode cX8_retires 39 = .ok (.getfield 258, 3) := by decide +kernel
theorem dX8_retires_42 : decode cX8_retires 42 = .ok (.ifCond .ne 14, 3) := by decide +kernel
theorem dX8_retires_45 : decode cX8_retires 45 = .ok (.aload_n 0, 1) := by decide +kernel
theorem dX8_retires_46 : decode cX8_retires 46 = .ok (.getfield 20, 3) := by decide +kernel
theorem dX8_retires_49 : decode cX8_retires 49 = .ok (.iconst 0, 1) := by decide +kernel
theorem dX8_retires_50 : decode cX8_retires 50 = .ok (.iload 4, 2) := by decide +kernel
theorem dX8_retires_52 : decode cX8_retires 52 = .ok (.iadd, 1) := by decide +kernel
theorem dX8_retires_53 : decode cX8_retires 53 = .ok (.iconst 1, 1) := by decide +kernel
theorem dX8_retires_54 : decode cX8_retires 54 = .ok (.iastore, 1) := by decide +kernel
theorem dX8_retires_55 : decode cX8_retires 55 = .ok (.return_, 1) := by decide +kernel
theorem dX8_retires_56 : decode cX8_retires 56 = .ok (.aload_n 0, 1) := by decide +kernel
theorem dX8_retires_57 : decode cX8_retires 57 = .ok (.getfield 20, 3) := by decide +kernel
theorem dX8_retires_60 : decode cX8_retires 60 = .ok (.iconst 0, 1) := by decide +kernel
theorem dX8_retires_61 : decode cX8_retires 61 = .ok (.iload 4, 2) := by decide +kernel
theorem dX8_retires_63 : decode cX8_retires 63 = .ok (.iadd, 1) := by decide +kernel
theorem dX8_retires_64 : decode cX8_retires 64 = .ok (.iconst 3, 1) := by decide +kernel
theorem dX8_retires_65 : decode cX8_retires 65 = .ok (.iastore, 1) := by decide +kernel
theorem dX8_retires_66 : decode cX8_retires 66 = .ok (.aload_n 0, 1) := by decide +kernel
theorem dX8_retires_67 : decode cX8_retires 67 = .ok (.getfield 20, 3) := by decide +kernel
theorem dX8_retires_70 : decode cX8_retires 70 = .ok (.sipush 960, 3) := by decide +kernel
theorem dX8_retires_73 : decode cX8_retires 73 = .ok (.iload 4, 2) := by decide +kernel
theorem dX8_retires_75 : decode cX8_retires 75 = .ok (.iadd, 1) := by decide +kernel
theorem dX8_retires_76 : decode cX8_retires 76 = .ok (.dup2, 1) := by decide +kernel
theorem dX8_retires_77 : decode cX8_retires 77 = .ok (.iaload, 1) := by decide +kernel
theorem dX8_retires_78 : decode cX8_retires 78 = .ok (.aload_n 0, 1) := by decide +kernel
theorem dX8_retires_79 : decode cX8_retires 79 = .ok (.getfield 262, 3) := by decide +kernel
theorem dX8_retires_82 : decode cX8_retires 82 = .ok (.iadd, 1) := by decide +kernel
theorem dX8_retires_83 : decode cX8_retires 83 = .ok (.iastore, 1) := by decide +kernel
theorem dX8_retires_84 : decode cX8_retires 84 = .ok (.aload_n 0, 1) := by decide +kernel
theorem dX8_retires_85 : decode cX8_retires 85 = .ok (.aload_n 0, 1) := by decide +kernel
theorem dX8_retires_86 : decode cX8_retires 86 = .ok (.getfield 20, 3) := by decide +kernel
theorem dX8_retires_89 : decode cX8_retires 89 = .ok (.sipush 240, 3) := by decide +kernel
theorem dX8_retires_92 : decode cX8_retires 92 = .ok (.iload 4, 2) := by decide +kernel
theorem dX8_retires_94 : decode cX8_retires 94 = .ok (.iadd, 1) := by decide +kernel
theorem dX8_retires_95 : decode cX8_retires 95 = .ok (.iaload, 1) := by decide +kernel
theorem dX8_retires_96 : decode cX8_retires 96 = .ok (.iconst 1, 1) := by decide +kernel
theorem dX8_retires_97 : decode cX8_retires 97 = .ok (.isub, 1) := by decide +kernel
theorem dX8_retires_98 : decode cX8_retires 98 = .ok (.aload_n 0, 1) := by decide +kernel
theorem dX8_retires_99 : decode cX8_retires 99 = .ok (.getfield 262, 3) := by decide +kernel
theorem dX8_retires_102 : decode cX8_retires 102 = .ok (.invokevirtual 281, 3) := by decide +kernel
theorem dX8_retires_105 : decode cX8_retires 105 = .ok (.aload_n 0, 1) := by decide +kernel
theorem dX8_retires_106 : decode cX8_retires 106 = .ok (.getfield 20, 3) := by decide +kernel
theorem dX8_retires_109 : decode cX8_retires 109 = .ok (.sipush 1383, 3) := by decide +kernel
theorem dX8_retires_112 : decode cX8_retires 112 = .ok (.bipush 6, 2) := by decide +kernel
theorem dX8_retires_114 : decode cX8_retires 114 = .ok (.iload_n 1, 1) := by decide +kernel
theorem dX8_retires_115 : decode cX8_retires 115 = .ok (.imul, 1) := by decide +kernel
theorem dX8_retires_116 : decode cX8_retires 116 = .ok (.iadd, 1) := by decide +kernel
theorem dX8_retires_117 : decode cX8_retires 117 = .ok (.iconst 2, 1) := by decide +kernel
theorem dX8_retires_118 : decode cX8_retires 118 = .ok (.iadd, 1) := by decide +kernel
theorem dX8_retires_119 : decode cX8_retires 119 = .ok (.dup2, 1) := by decide +kernel
theorem dX8_retires_120 : decode cX8_retires 120 = .ok (.iaload, 1) := by decide +kernel
theorem dX8_retires_121 : decode cX8_retires 121 = .ok (.aload_n 0, 1) := by decide +kernel
theorem dX8_retires_122 : decode cX8_retires 122 = .ok (.getfield 262, 3) := by decide +kernel
theorem dX8_retires_125 : decode cX8_retires 125 = .ok (.iadd, 1) := by decide +kernel
theorem dX8_retires_126 : decode cX8_retires 126 = .ok (.iastore, 1) := by decide +kernel
theorem dX8_retires_127 : decode cX8_retires 127 = .ok (.aload_n 0, 1) := by decide +kernel
theorem dX8_retires_128 : decode cX8_retires 128 = .ok (.getfield 20, 3) := by decide +kernel
theorem dX8_retires_131 : decode cX8_retires 131 = .ok (.sipush 1383, 3) := by decide +kernel
theorem dX8_retires_134 : decode cX8_retires 134 = .ok (.bipush 6, 2) := by decide +kernel
theorem dX8_retires_136 : decode cX8_retires 136 = .ok (.iload_n 1, 1) := by decide +kernel
theorem dX8_retires_137 : decode cX8_retires 137 = .ok (.imul, 1) := by decide +kernel
theorem dX8_retires_138 : decode cX8_retires 138 = .ok (.iadd, 1) := by decide +kernel
theorem dX8_retires_139 : decode cX8_retires 139 = .ok (.iconst 5, 1) := by decide +kernel
theorem dX8_retires_140 : decode cX8_retires 140 = .ok (.iadd, 1) := by decide +kernel
theorem dX8_retires_141 : decode cX8_retires 141 = .ok (.dup2, 1) := by decide +kernel
theorem dX8_retires_142 : decode cX8_retires 142 = .ok (.iaload, 1) := by decide +kernel
theorem dX8_retires_143 : decode cX8_retires 143 = .ok (.aload_n 0, 1) := by decide +kernel
theorem dX8_retires_144 : decode cX8_retires 144 = .ok (.iload_n 1, 1) := by decide +kernel
theorem dX8_retires_145 : decode cX8_retires 145 = .ok (.iconst 1, 1) := by decide +kernel
theorem dX8_retires_146 : decode cX8_retires 146 = .ok (.invokevirtual 225, 3) := by decide +kernel
theorem dX8_retires_149 : decode cX8_retires 149 = .ok (.aload_n 0, 1) := by decide +kernel
theorem dX8_retires_150 : decode cX8_retires 150 = .ok (.getfield 262, 3) := by decide +kernel
theorem dX8_retires_153 : decode cX8_retires 153 = .ok (.isub, 1) := by decide +kernel
theorem dX8_retires_154 : decode cX8_retires 154 = .ok (.iadd, 1) := by decide +kernel
theorem dX8_retires_155 : decode cX8_retires 155 = .ok (.iastore, 1) := by decide +kernel
theorem dX8_retires_156 : decode cX8_retires 156 = .ok (.return_, 1) := by decide +kernel
abbrev rX8_retires : Room := { frames := 1, cells := 0, slots := 0, locals := 24 }
theorem cal_X8_retires : CalOk yX8_retires cX8_retires 5 none 3 := ⟨wm_6_155, wm_1_9, by decide, by decide, by decide +kernel⟩
def f_X8_retires (p0 : Nat) (p1 : Int32) (p2 : Int32) (p3 : Int32) (M : Mm) : Option (Unit × Mm) :=
  bd (f_X8_bondAt p1 p2 M) fun v2 M1 =>
  ck (gK M1 p0 = 8) (bR (gR M1 p0 17) fun q3 => ck (gK M1 p0 = 8) (bR (gR M1 p0 17) fun q4 => ck (gK M1 q4 = 10 ∧ inb (1206 : Int32) (gN M1 q4)) (ck (gK M1 q3 = 10 ∧ inb ((480 : Int32) + v2) (gN M1 q3)) (nm (sI M1 q3 (((480 : Int32) + v2)).toNatClampNeg (gI M1 q4 ((1206 : Int32)).toNatClampNeg)) fun M5 =>
  ck (gK M5 p0 = 8) (bR (gR M5 p0 17) fun q6 => ck (gK M5 q6 = 10 ∧ inb ((720 : Int32) + v2) (gN M5 q6)) (nm (sI M5 q6 (((720 : Int32) + v2)).toNatClampNeg p3) fun M7 =>
  ck (gK M7 p0 = 8) ((if ¬ (gI M7 p0 21) = 0 then
    ck (gK M7 p0 = 8) (bR (gR M7 p0 17) fun q8 => ck (gK M7 q8 = 10 ∧ inb ((0 : Int32) + v2) (gN M7 q8)) (nm (sI M7 q8 (((0 : Int32) + v2)).toNatClampNeg (3 : Int32)) fun M9 =>
    ck (gK M9 p0 = 8) (bR (gR M9 p0 17) fun q10 => ck (gK M9 q10 = 10 ∧ inb ((960 : Int32) + v2) (gN M9 q10)) (ck (gK M9 p0 = 8) (ck (gK M9 q10 = 10 ∧ inb ((960 : Int32) + v2) (gN M9 q10)) (nm (sI M9 q10 (((960 : Int32) + v2)).toNatClampNeg ((gI M9 q10 (((960 : Int32) + v2)).toNatClampNeg) + (gI M9 p0 20))) fun M11 =>
    ck (gK M11 p0 = 8) (bR (gR M11 p0 17) fun q12 => ck (gK M11 q12 = 10 ∧ inb ((240 : Int32) + v2) (gN M11 q12)) (ck (gK M11 p0 = 8) (ck (gK M11 p0 = 8) (bd (f_X8_pays p0 ((gI M11 q12 (((240 : Int32) + v2)).toNatClampNeg) - (1 : Int32)) (gI M11 p0 20) M11) fun _ M13 =>
    ck (gK M13 p0 = 8) (bR (gR M13 p0 17) fun q14 => ck (gK M13 q14 = 10 ∧ inb (((1383 : Int32) + ((6 : Int32) * p1)) + (2 : Int32)) (gN M13 q14)) (ck (gK M13 p0 = 8) (ck (gK M13 q14 = 10 ∧ inb (((1383 : Int32) + ((6 : Int32) * p1)) + (2 : Int32)) (gN M13 q14)) (nm (sI M13 q14 ((((1383 : Int32) + ((6 : Int32) * p1)) + (2 : Int32))).toNatClampNeg ((gI M13 q14 ((((1383 : Int32) + ((6 : Int32) * p1)) + (2 : Int32))).toNatClampNeg) + (gI M13 p0 20))) fun M15 =>
    ck (gK M15 p0 = 8) (bR (gR M15 p0 17) fun q16 => ck (gK M15 q16 = 10 ∧ inb (((1383 : Int32) + ((6 : Int32) * p1)) + (5 : Int32)) (gN M15 q16)) (ck (gK M15 p0 = 8) (bd (f_X8_loanOf p0 p1 (1 : Int32) M15) fun v18 M17 =>
    ck (gK M17 p0 = 8) (ck (gK M17 q16 = 10 ∧ inb (((1383 : Int32) + ((6 : Int32) * p1)) + (5 : Int32)) (gN M17 q16)) (nm (sI M17 q16 ((((1383 : Int32) + ((6 : Int32) * p1)) + (5 : Int32))).toNatClampNeg ((gI M15 q16 ((((1383 : Int32) + ((6 : Int32) * p1)) + (5 : Int32))).toNatClampNeg) + (v18 - (gI M17 p0 20)))) fun M19 =>
    some ((), M19))))))))))))))))))))
  else
    ck (gK M7 p0 = 8) (bR (gR M7 p0 17) fun q20 => ck (gK M7 q20 = 10 ∧ inb ((0 : Int32) + v2) (gN M7 q20)) (nm (sI M7 q20 (((0 : Int32) + v2)).toNatClampNeg (1 : Int32)) fun M21 =>
    some ((), M21)))))))))))
set_option maxRecDepth 20000 in
set_option maxHeartbeats 4000000 in
theorem t_X8_retires (p0 : Nat) (p1 : Int32) (p2 : Int32) (p3 : Int32) (M : Mm) (x : Unit) (M' : Mm) (h : f_X8_retires p0 p1 p2 p3 M = some (x, M')) : Ctr yX8_retires cX8_retires 5 none rX8_retires (fun _ => [.ref p0, .int p1, .int p2, .int p3]) M (zU x) M' := by
  refine ctr_of (plainFor_of_name (by decide)) (fun _ => Nat.le_of_ble_eq_true rfl) (fun z hz hin hq => ?_)
  have key : Sim z 0 [(0, .ref p0), (1, .int p1), (2, .int p2), (3, .int p3)] [] M 0 0 (f_X8_retires p0 p1 p2 p3 M) (fun a b => a = x ∧ b = M') := by
    have hq : Ret z zU (fun a b => a = x ∧ b = M') := fun a b e => by rw [e.1, e.2]; exact hq
    unfold f_X8_retires
    refine r_iload_n hz dX8_retires_0 1 rfl ?_
    refine r_iload_n hz dX8_retires_1 2 rfl ?_
    refine r_callSi (As := fun _ => [.int p1, .int p2]) hz (fun _ _ h => t_X8_bondAt _ _ _ _ _ h) cal_X8_bondAt dX8_retires_2 wm_6_72 wm_6_73 rfl rfl (Nat.le_of_ble_eq_true rfl) ⟨(Nat.le_of_ble_eq_true rfl), (Nat.le_of_ble_eq_true rfl)⟩ ⟨(Nat.le_of_ble_eq_true rfl), (Nat.le_of_ble_eq_true rfl)⟩ (fun v2 M1 => ?_)
    refine r_istore (lv' := [(4, .int v2), (0, .ref p0), (1, .int p1), (2, .int p2), (3, .int p3)]) hz dX8_retires_5 (by decide) rfl ?_
    refine r_aload_n hz dX8_retires_7 1 rfl ?_
    refine r_getR (j := 17) cl8 hz dX8_retires_8 (by decide) wm_5_73 rfl (fun q3 => ?_)
    refine r_sipush (v := 480) hz dX8_retires_11 rfl ?_
    refine r_iload hz dX8_retires_14 0 rfl ?_
    refine r_iadd hz dX8_retires_16 ?_
    refine r_aload_n hz dX8_retires_17 1 rfl ?_
    refine r_getR (j := 17) cl8 hz dX8_retires_18 (by decide) wm_5_73 rfl (fun q4 => ?_)
    refine r_sipush (v := 1206) hz dX8_retires_21 rfl ?_
    refine r_iald hz dX8_retires_24 ?_
    refine r_iast hz dX8_retires_25 ?_
    refine r_nmM (fun M5 => ?_)
    refine r_aload_n hz dX8_retires_26 1 rfl ?_
    refine r_getR (j := 17) cl8 hz dX8_retires_27 (by decide) wm_5_73 rfl (fun q6 => ?_)
    refine r_sipush (v := 720) hz dX8_retires_30 rfl ?_
    refine r_iload hz dX8_retires_33 0 rfl ?_
    refine r_iadd hz dX8_retires_35 ?_
    refine r_iload_n hz dX8_retires_36 4 rfl ?_
    refine r_iast hz dX8_retires_37 ?_
    refine r_nmM (fun M7 => ?_)
    refine r_aload_n hz dX8_retires_38 1 rfl ?_
    refine r_getI (j := 21) cl8 hz dX8_retires_39 (by decide) wm_5_77 rfl ?_
    refine r_if_ne (tgt := 56) hz dX8_retires_42 rfl ?_ ?_
    · refine r_aload_n hz dX8_retires_56 1 rfl ?_
      refine r_getR (j := 17) cl8 hz dX8_retires_57 (by decide) wm_5_73 rfl (fun q8 => ?_)
      refine r_iconst (v := 0) hz dX8_retires_60 rfl ?_
      refine r_iload hz dX8_retires_61 0 rfl ?_
      refine r_iadd hz dX8_retires_63 ?_
      refine r_iconst (v := 3) hz dX8_retires_64 rfl ?_
      refine r_iast hz dX8_retires_65 ?_
      refine r_nmM (fun M9 => ?_)
      refine r_aload_n hz dX8_retires_66 1 rfl ?_
      refine r_getR (j := 17) cl8 hz dX8_retires_67 (by decide) wm_5_73 rfl (fun q10 => ?_)
      refine r_sipush (v := 960) hz dX8_retires_70 rfl ?_
      refine r_iload hz dX8_retires_73 0 rfl ?_
      refine r_iadd hz dX8_retires_75 ?_
      refine r_dup2 hz dX8_retires_76 rfl rfl ?_
      refine r_iald hz dX8_retires_77 ?_
      refine r_aload_n hz dX8_retires_78 1 rfl ?_
      refine r_getI (j := 20) cl8 hz dX8_retires_79 (by decide) wm_5_76 rfl ?_
      refine r_iadd hz dX8_retires_82 ?_
      refine r_iast hz dX8_retires_83 ?_
      refine r_nmM (fun M11 => ?_)
      refine r_aload_n hz dX8_retires_84 1 rfl ?_
      refine r_aload_n hz dX8_retires_85 1 rfl ?_
      refine r_getR (j := 17) cl8 hz dX8_retires_86 (by decide) wm_5_73 rfl (fun q12 => ?_)
      refine r_sipush (v := 240) hz dX8_retires_89 rfl ?_
      refine r_iload hz dX8_retires_92 0 rfl ?_
      refine r_iadd hz dX8_retires_94 ?_
      refine r_iald hz dX8_retires_95 ?_
      refine r_iconst (v := 1) hz dX8_retires_96 rfl ?_
      refine r_isub hz dX8_retires_97 ?_
      refine r_aload_n hz dX8_retires_98 1 rfl ?_
      refine r_getI (j := 20) cl8 hz dX8_retires_99 (by decide) wm_5_76 rfl ?_
      refine r_callVv (As := fun _ => [.int ((gI M11 q12 (((240 : Int32) + v2)).toNatClampNeg) - (1 : Int32)), .int (gI M11 p0 20)]) cl8 hz (fun _ _ h => t_X8_pays _ _ _ _ _ _ h) cal_X8_pays dX8_retires_102 wm_6_133 wm_6_135 wm_p_74 rfl rfl (Nat.le_of_ble_eq_true rfl) ⟨(Nat.le_of_ble_eq_true rfl), (Nat.le_of_ble_eq_true rfl)⟩ ⟨(Nat.le_of_ble_eq_true rfl), (Nat.le_of_ble_eq_true rfl)⟩ (fun _ M13 => ?_)
      refine r_aload_n hz dX8_retires_105 1 rfl ?_
      refine r_getR (j := 17) cl8 hz dX8_retires_106 (by decide) wm_5_73 rfl (fun q14 => ?_)
      refine r_sipush (v := 1383) hz dX8_retires_109 rfl ?_
      refine r_bipush (v := 6) hz dX8_retires_112 rfl ?_
      refine r_iload_n hz dX8_retires_114 2 rfl ?_
      refine r_imul hz dX8_retires_115 ?_
      refine r_iadd hz dX8_retires_116 ?_
      refine r_iconst (v := 2) hz dX8_retires_117 rfl ?_
      refine r_iadd hz dX8_retires_118 ?_
      refine r_dup2 hz dX8_retires_119 rfl rfl ?_
      refine r_iald hz dX8_retires_120 ?_
      refine r_aload_n hz dX8_retires_121 1 rfl ?_
      refine r_getI (j := 20) cl8 hz dX8_retires_122 (by decide) wm_5_76 rfl ?_
      refine r_iadd hz dX8_retires_125 ?_
      refine r_iast hz dX8_retires_126 ?_
      refine r_nmM (fun M15 => ?_)
      refine r_aload_n hz dX8_retires_127 1 rfl ?_
      refine r_getR (j := 17) cl8 hz dX8_retires_128 (by decide) wm_5_73 rfl (fun q16 => ?_)
      refine r_sipush (v := 1383) hz dX8_retires_131 rfl ?_
      refine r_bipush (v := 6) hz dX8_retires_134 rfl ?_
      refine r_iload_n hz dX8_retires_136 2 rfl ?_
      refine r_imul hz dX8_retires_137 ?_
      refine r_iadd hz dX8_retires_138 ?_
      refine r_iconst (v := 5) hz dX8_retires_139 rfl ?_
      refine r_iadd hz dX8_retires_140 ?_
      refine r_dup2 hz dX8_retires_141 rfl rfl ?_
      refine r_iald hz dX8_retires_142 ?_
      refine r_aload_n hz dX8_retires_143 1 rfl ?_
      refine r_iload_n hz dX8_retires_144 2 rfl ?_
      refine r_iconst (v := 1) hz dX8_retires_145 rfl ?_
      refine r_callVi (As := fun _ => [.int p1, .int (1 : Int32)]) cl8 hz (fun _ _ h => t_X8_loanOf _ _ _ _ _ _ h) cal_X8_loanOf dX8_retires_146 wm_6_68 wm_6_70 wm_p_66 rfl rfl (Nat.le_of_ble_eq_true rfl) ⟨(Nat.le_of_ble_eq_true rfl), (Nat.le_of_ble_eq_true rfl)⟩ ⟨(Nat.le_of_ble_eq_true rfl), (Nat.le_of_ble_eq_true rfl)⟩ (fun v18 M17 => ?_)
      refine r_aload_n hz dX8_retires_149 1 rfl ?_
      refine r_getI (j := 20) cl8 hz dX8_retires_150 (by decide) wm_5_76 rfl ?_
      refine r_isub hz dX8_retires_153 ?_
      refine r_iadd hz dX8_retires_154 ?_
      refine r_iast hz dX8_retires_155 ?_
      refine r_nmM (fun M19 => ?_)
      exact r_vret hz hq dX8_retires_156 (Nat.le_of_ble_eq_true rfl) (Nat.le_of_ble_eq_true rfl)
    · refine r_aload_n hz dX8_retires_45 1 rfl ?_
      refine r_getR (j := 17) cl8 hz dX8_retires_46 (by decide) wm_5_73 rfl (fun q20 => ?_)
      refine r_iconst (v := 0) hz dX8_retires_49 rfl ?_
      refine r_iload hz dX8_retires_50 0 rfl ?_
      refine r_iadd hz dX8_retires_52 ?_
      refine r_iconst (v := 1) hz dX8_retires_53 rfl ?_
      refine r_iast hz dX8_retires_54 ?_
      refine r_nmM (fun M21 => ?_)
      exact r_vret hz hq dX8_retires_55 (Nat.le_of_ble_eq_true rfl) (Nat.le_of_ble_eq_true rfl)
  exact key x M' h ⟨rfl, rfl⟩
theorem dX8_loanYear_0 : decode cX8_loanYear 0 = .ok (.aload_n 0, 1) := by decide +kernel
theorem dX8_loanYear_1 : decode cX8_loanYear 1 = .ok (.getfield 20, 3) := by decide +kernel
theorem dX8_loanYear_4 : decode cX8_loanYear 4 = .ok (.sipush 1206, 3) := by decide +kernel
theorem dX8_loanYear_7 : decode cX8_loanYear 7 = .ok (.iaload, 1) := by decide +kernel
theorem dX8_loanYear_8 : decode cX8_loanYear 8 = .ok (.istore_n 2, 1) := by decide +kernel
theorem dX8_loanYear_9 : decode cX8_loanYear 9 = .ok (.aload_n 0, 1) := by decide +kernel
theorem dX8_loanYear_10 : decode cX8_loanYear 10 = .ok (.iload_n 1, 1) := by decide +kernel
theorem dX8_loanYear_11 : decode cX8_loanYear 11 = .ok (.iconst 0, 1) := by decide +kernel
theorem dX8_loanYear_12 : decode cX8_loanYear 12 = .ok (.invokevirtual 232, 3) := by decide +kernel
theorem dX8_loanYear_15 : decode cX8_loanYear 15 = .ok (.istore_n 3, 1) := by decide +kernel
theorem dX8_loanYear_16 : decode cX8_loanYear 16 = .ok (.iconst 1, 1) := by decide +kernel
theorem dX8_loanYear_17 : decode cX8_loanYear 17 = .ok (.istore 4, 2) := by decide +kernel
theorem dX8_loanYear_19 : decode cX8_loanYear 19 = .ok (.iload 4, 2) := by decide +kernel
theorem dX8_loanYear_21 : decode cX8_loanYear 21 = .ok (.aload_n 0, 1) := by decide +kernel
theorem dX8_loanYear_22 : decode cX8_loanYear 22 = .ok (.iload_n 1, 1) := by decide +kernel
theorem dX8_loanYear_23 : decode cX8_loanYear 23 = .ok (.iconst 0, 1) := by decide +kernel
theorem dX8_loanYear_24 : decode cX8_loanYear 24 = .ok (.invokevirtual 225, 3) := by decide +kernel
theorem dX8_loanYear_27 : decode cX8_loanYear 27 = .ok (.if_icmp .gt 94, 3) := by decide +kernel
theorem dX8_loanYear_30 : decode cX8_loanYear 30 = .ok (.iload_n 1, 1) := by decide +kernel
theorem dX8_loanYear_31 : decode cX8_loanYear 31 = .ok (.iload 4, 2) := by decide +kernel
theorem dX8_loanYear_33 : decode cX8_loanYear 33 = .ok (.invokestatic 229, 3) := by decide +kernel
theorem dX8_loanYear_36 : decode cX8_loanYear 36 = .ok (.istore 5, 2) := by decide +kernel
theorem dX8_loanYear_38 : decode cX8_loanYear 38 = .ok (.aload_n 0, 1) := by decide +kernel
theorem dX8_loanYear_39 : decode cX8_loanYear 39 = .ok (.getfield 20, 3) := by decide +kernel
theorem dX8_loanYear_42 : decode cX8_loanYear 42 = .ok (.iconst 0, 1) := by decide +kernel
theorem dX8_loanYear_43 : decode cX8_loanYear 43 = .ok (.iload 5, 2) := by decide +kernel
theorem dX8_loanYear_45 : decode cX8_loanYear 45 = .ok (.iadd, 1) := by decide +kernel
theorem dX8_loanYear_46 : decode cX8_loanYear 46 = .ok (.iaload, 1) := by decide +kernel
theorem dX8_loanYear_47 : decode cX8_loanYear 47 = .ok (.ifCond .ne 68, 3) := by decide +kernel
theorem dX8_loanYear_50 : decode cX8_loanYear 50 = .ok (.aload_n 0, 1) := by decide +kernel
theorem dX8_loanYear_51 : decode cX8_loanYear 51 = .ok (.getfield 20, 3) := by decide +kernel
theorem dX8_loanYear_54 : decode cX8_loanYear 54 = .ok (.sipush 960, 3) := by decide +kernel
theorem dX8_loanYear_57 : decode cX8_loanYear 57 = .ok (.iload 5, 2) := by decide +kernel
theorem dX8_loanYear_59 : decode cX8_loanYear 59 = .ok (.iadd, 1) := by decide +kernel
theorem dX8_loanYear_60 : decode cX8_loanYear 60 = .ok (.dup2, 1) := by decide +kernel
theorem dX8_loanYear_61 : decode cX8_loanYear 61 = .ok (.iaload, 1) := by decide +kernel
theorem dX8_loanYear_62 : decode cX8_loanYear 62 = .ok (.aload_n 0, 1) := by decide +kernel
theorem dX8_loanYear_63 : decode cX8_loanYear 63 = .ok (.iload_n 1, 1) := by decide +kernel
theorem dX8_loanYear_64 : decode cX8_loanYear 64 = .ok (.iconst 2, 1) := by decide +kernel
theorem dX8_loanYear_65 : decode cX8_loanYear 65 = .ok (.invokevirtual 225, 3) := by decide +kernel
theorem dX8_loanYear_68 : decode cX8_loanYear 68 = .ok (.iadd, 1) := by decide +kernel
theorem dX8_loanYear_69 : decode cX8_loanYear 69 = .ok (.iastore, 1) := by decide +kernel
theorem dX8_loanYear_70 : decode cX8_loanYear 70 = .ok (.aload_n 0, 1) := by decide +kernel
theorem dX8_loanYear_71 : decode cX8_loanYear 71 = .ok (.aload_n 0, 1) := by decide +kernel
theorem dX8_loanYear_72 : decode cX8_loanYear 72 = .ok (.getfield 20, 3) := by decide +kernel
theorem dX8_loanYear_75 : decode cX8_loanYear 75 = .ok (.sipush 240, 3) := by decide +kernel
theorem dX8_loanYear_78 : decode cX8_loanYear 78 = .ok (.iload 5, 2) := by decide +kernel
theorem dX8_loanYear_80 : decode cX8_loanYear 80 = .ok (.iadd, 1) := by decide +kernel
theorem dX8_loanYear_81 : decode cX8_loanYear 81 = .ok (.iaload, 1) := by decide +kernel
theorem dX8_loanYear_82 : decode cX8_loanYear 82 = .ok (.iconst 1, 1) := by decide +kernel
theorem dX8_loanYear_83 : decode cX8_loanYear 83 = .ok (.isub, 1) := by decide +kernel
theorem dX8_loanYear_84 : decode cX8_loanYear 84 = .ok (.aload_n 0, 1) := by decide +kernel
theorem dX8_loanYear_85 : decode cX8_loanYear 85 = .ok (.iload_n 1, 1) := by decide +kernel
theorem dX8_loanYear_86 : decode cX8_loanYear 86 = .ok (.iconst 2, 1) := by decide +kernel
theorem dX8_loanYear_87 : decode cX8_loanYear 87 = .ok (.invokevirtual 225, 3) := by decide +kernel
theorem dX8_loanYear_90 : decode cX8_loanYear 90 = .ok (.invokevirtual 281, 3) := by decide +kernel
theorem dX8_loanYear_93 : decode cX8_loanYear 93 = .ok (.aload_n 0, 1) := by decide +kernel
theorem dX8_loanYear_94 : decode cX8_loanYear 94 = .ok (.getfield 20, 3) := by decide +kernel
theorem dX8_loanYear_97 : decode cX8_loanYear 97 = .ok (.sipush 1383, 3) := by decide +kernel
theorem dX8_loanYear_100 : decode cX8_loanYear 100 = .ok (.bipush 6, 2) := by decide +kernel
theorem dX8_loanYear_102 : decode cX8_loanYear 102 = .ok (.iload_n 1, 1) := by decide +kernel
theorem dX8_loanYear_103 : decode cX8_loanYear 103 = .ok (.imul, 1) := by decide +kernel
theorem dX8_loanYear_104 : decode cX8_loanYear 104 = .ok (.iadd, 1) := by decide +kernel
theorem dX8_loanYear_105 : decode cX8_loanYear 105 = .ok (.dup2, 1) := by decide +kernel
theorem dX8_loanYear_106 : decode cX8_loanYear 106 = .ok (.iaload, 1) := by decide +kernel
theorem dX8_loanYear_107 : decode cX8_loanYear 107 = .ok (.aload_n 0, 1) := by decide +kernel
theorem dX8_loanYear_108 : decode cX8_loanYear 108 = .ok (.iload_n 1, 1) := by decide +kernel
theorem dX8_loanYear_109 : decode cX8_loanYear 109 = .ok (.iconst 2, 1) := by decide +kernel
theorem dX8_loanYear_110 : decode cX8_loanYear 110 = .ok (.invokevirtual 225, 3) := by decide +kernel
theorem dX8_loanYear_113 : decode cX8_loanYear 113 = .ok (.iadd, 1) := by decide +kernel
theorem dX8_loanYear_114 : decode cX8_loanYear 114 = .ok (.iastore, 1) := by decide +kernel
theorem dX8_loanYear_115 : decode cX8_loanYear 115 = .ok (.iinc 4 1, 3) := by decide +kernel
theorem dX8_loanYear_118 : decode cX8_loanYear 118 = .ok (.goto (-99), 3) := by decide +kernel
theorem dX8_loanYear_121 : decode cX8_loanYear 121 = .ok (.aload_n 0, 1) := by decide +kernel
theorem dX8_loanYear_122 : decode cX8_loanYear 122 = .ok (.iload_n 1, 1) := by decide +kernel
theorem dX8_loanYear_123 : decode cX8_loanYear 123 = .ok (.iload_n 2, 1) := by decide +kernel
theorem dX8_loanYear_124 : decode cX8_loanYear 124 = .ok (.iload_n 3, 1) := by decide +kernel
theorem dX8_loanYear_125 : decode cX8_loanYear 125 = .ok (.aload_n 0, 1) := by decide +kernel
theorem dX8_loanYear_126 : decode cX8_loanYear 126 = .ok (.getfield 20, 3) := by decide +kernel
theorem dX8_loanYear_129 : decode cX8_loanYear 129 = .ok (.sipush 1211, 3) := by decide +kernel
theorem dX8_loanYear_132 : decode cX8_loanYear 132 = .ok (.iload_n 1, 1) := by decide +kernel
theorem dX8_loanYear_133 : decode cX8_loanYear 133 = .ok (.iadd, 1) := by decide +kernel
theorem dX8_loanYear_134 : decode cX8_loanYear 134 = .ok (.iaload, 1) := by decide +kernel
theorem dX8_loanYear_135 : decode cX8_loanYear 135 = .ok (.aload_n 0, 1) := by decide +kernel
theorem dX8_loanYear_136 : decode cX8_loanYear 136 = .ok (.iload_n 1, 1) := by decide +kernel
theorem dX8_loanYear_137 : decode cX8_loanYear 137 = .ok (.iload_n 2, 1) := by decide +kernel
theorem dX8_loanYear_138 : decode cX8_loanYear 138 = .ok (.invokevirtual 255, 3) := by decide +kernel
theorem dX8_loanYear_141 : decode cX8_loanYear 141 = .ok (.invokevirtual 285, 3) := by decide +kernel
theorem dX8_loanYear_144 : decode cX8_loanYear 144 = .ok (.istore 4, 2) := by decide +kernel
theorem dX8_loanYear_146 : decode cX8_loanYear 146 = .ok (.aload_n 0, 1) := by decide +kernel
theorem dX8_loanYear_147 : decode cX8_loanYear 147 = .ok (.getfield 20, 3) := by decide +kernel
theorem dX8_loanYear_150 : decode cX8_loanYear 150 = .ok (.sipush 1211, 3) := by decide +kernel
theorem dX8_loanYear_153 : decode cX8_loanYear 153 = .ok (.iload_n 1, 1) := by decide +kernel
theorem dX8_loanYear_154 : decode cX8_loanYear 154 = .ok (.iadd, 1) := by decide +kernel
theorem dX8_loanYear_155 : decode cX8_loanYear 155 = .ok (.aload_n 0, 1) := by decide +kernel
theorem dX8_loanYear_156 : decode cX8_loanYear 156 = .ok (.getfield 265, 3) := by decide +kernel
theorem dX8_loanYear_159 : decode cX8_loanYear 159 = .ok (.iastore, 1) := by decide +kernel
theorem dX8_loanYear_160 : decode cX8_loanYear 160 = .ok (.aload_n 0, 1) := by decide +kernel
theorem dX8_loanYear_161 : decode cX8_loanYear 161 = .ok (.getfield 20, 3) := by decide +kernel
theorem dX8_loanYear_164 : decode cX8_loanYear 164 = .ok (.sipush 1299, 3) := by decide +kernel
theorem dX8_loanYear_167 : decode cX8_loanYear 167 = .ok (.bipush 21, 2) := by decide +kernel
theorem dX8_loanYear_169 : decode cX8_loanYear 169 = .ok (.iload_n 1, 1) := by decide +kernel
theorem dX8_loanYear_170 : decode cX8_loanYear 170 = .ok (.imul, 1) := by decide +kernel
theorem dX8_loanYear_171 : decode cX8_loanYear 171 = .ok (.iadd, 1) := by decide +kernel
theorem dX8_loanYear_172 : decode cX8_loanYear 172 = .ok (.iload_n 2, 1) := by decide +kernel
theorem dX8_loanYear_173 : decode cX8_loanYear 173 = .ok (.iadd, 1) := by decide +kernel
theorem dX8_loanYear_174 : decode cX8_loanYear 174 = .ok (.aload_n 0, 1) := by decide +kernel
theorem dX8_loanYear_175 : decode cX8_loanYear 175 = .ok (.getfield 20, 3) := by decide +kernel
theorem dX8_loanYear_178 : decode cX8_loanYear 178 = .ok (.sipush 1207, 3) := by decide +kernel
theorem dX8_loanYear_181 : decode cX8_loanYear 181 = .ok (.iload_n 1, 1) := by decide +kernel
theorem dX8_loanYear_182 : decode cX8_loanYear 182 = .ok (.iadd, 1) := by decide +kernel
theorem dX8_loanYear_183 : decode cX8_loanYear 183 = .ok (.iaload, 1) := by decide +kernel
theorem dX8_loanYear_184 : decode cX8_loanYear 184 = .ok (.iastore, 1) := by decide +kernel
theorem dX8_loanYear_185 : decode cX8_loanYear 185 = .ok (.iconst 1, 1) := by decide +kernel
theorem dX8_loanYear_186 : decode cX8_loanYear 186 = .ok (.istore 5, 2) := by decide +kernel
theorem dX8_loanYear_188 : decode cX8_loanYear 188 = .ok (.iload 5, 2) := by decide +kernel
theorem dX8_loanYear_190 : decode cX8_loanYear 190 = .ok (.iload 4, 2) := by decide +kernel
theorem dX8_loanYear_192 : decode cX8_loanYear 192 = .ok (.if_icmp .gt 59, 3) := by decide +kernel
theorem dX8_loanYear_195 : decode cX8_loanYear 195 = .ok (.aload_n 0, 1) := by decide +kernel
theorem dX8_loanYear_196 : decode cX8_loanYear 196 = .ok (.getfield 20, 3) := by decide +kernel
theorem dX8_loanYear_199 : decode cX8_loanYear 199 = .ok (.sipush 1207, 3) := by decide +kernel
theorem dX8_loanYear_202 : decode cX8_loanYear 202 = .ok (.iload_n 1, 1) := by decide +kernel
theorem dX8_loanYear_203 : decode cX8_loanYear 203 = .ok (.iadd, 1) := by decide +kernel
theorem dX8_loanYear_204 : decode cX8_loanYear 204 = .ok (.aload_n 0, 1) := by decide +kernel
theorem dX8_loanYear_205 : decode cX8_loanYear 205 = .ok (.getfield 20, 3) := by decide +kernel
theorem dX8_loanYear_208 : decode cX8_loanYear 208 = .ok (.sipush 1207, 3) := by decide +kernel
theorem dX8_loanYear_211 : decode cX8_loanYear 211 = .ok (.iload_n 1, 1) := by decide +kernel
theorem dX8_loanYear_212 : decode cX8_loanYear 212 = .ok (.iadd, 1) := by decide +kernel
theorem dX8_loanYear_213 : decode cX8_loanYear 213 = .ok (.iaload, 1) := by decide +kernel
theorem dX8_loanYear_214 : decode cX8_loanYear 214 = .ok (.invokestatic 289, 3) := by decide +kernel
theorem dX8_loanYear_217 : decode cX8_loanYear 217 = .ok (.iastore, 1) := by decide +kernel
theorem dX8_loanYear_218 : decode cX8_loanYear 218 = .ok (.aload_n 0, 1) := by decide +kernel
theorem dX8_loanYear_219 : decode cX8_loanYear 219 = .ok (.iload_n 1, 1) := by decide +kernel
theorem dX8_loanYear_220 : decode cX8_loanYear 220 = .ok (.aload_n 0, 1) := by decide +kernel
theorem dX8_loanYear_221 : decode cX8_loanYear 221 = .ok (.iload_n 1, 1) := by decide +kernel
theorem dX8_loanYear_222 : decode cX8_loanYear 222 = .ok (.aload_n 0, 1) := by decide +kernel
theorem dX8_loanYear_223 : decode cX8_loanYear 223 = .ok (.getfield 20, 3) := by decide +kernel
theorem dX8_loanYear_226 : decode cX8_loanYear 226 = .ok (.sipush 1207, 3) := by decide +kernel
theorem dX8_loanYear_229 : decode cX8_loanYear 229 = .ok (.iload_n 1, 1) := by decide +kernel
theorem dX8_loanYear_230 : decode cX8_loanYear 230 = .ok (.iadd, 1) := by decide +kernel
theorem dX8_loanYear_231 : decode cX8_loanYear 231 = .ok (.iaload, 1) := by decide +kernel
theorem dX8_loanYear_232 : decode cX8_loanYear 232 = .ok (.iload_n 3, 1) := by decide +kernel
theorem dX8_loanYear_233 : decode cX8_loanYear 233 = .ok (.irem, 1) := by decide +kernel
theorem dX8_loanYear_234 : decode cX8_loanYear 234 = .ok (.invokevirtual 292, 3) := by decide +kernel
theorem dX8_loanYear_237 : decode cX8_loanYear 237 = .ok (.iload 5, 2) := by decide +kernel
theorem dX8_loanYear_239 : decode cX8_loanYear 239 = .ok (.invokevirtual 295, 3) := by decide +kernel
theorem dX8_loanYear_242 : decode cX8_loanYear 242 = .ok (.iinc 3 (-1), 3) := by decide +kernel
theorem dX8_loanYear_245 : decode cX8_loanYear 245 = .ok (.iinc 5 1, 3) := by decide +kernel
theorem dX8_loanYear_248 : decode cX8_loanYear 248 = .ok (.goto (-60), 3) := by decide +kernel
theorem dX8_loanYear_251 : decode cX8_loanYear 251 = .ok (.iload 4, 2) := by decide +kernel
theorem dX8_loanYear_253 : decode cX8_loanYear 253 = .ok (.ireturn, 1) := by decide +kernel
abbrev rX8_loanYear : Room := { frames := 2, cells := 0, slots := 0, locals := 51 }
theorem cal_X8_loanYear : CalOk yX8_loanYear cX8_loanYear 6 (some .int) 1 := ⟨wm_6_132, wm_1_9, by decide, by decide, by decide +kernel⟩
def f_X8_loanYear_188 : Nat → Nat → Int32 → Int32 → Int32 → Int32 → Mm → Option (Int32 × Mm)
  | 0, _, _, _, _, _, _ => none
  | n + 1, x0, x1, x3, x4, x5, M =>
    (if x4 < x5 then
      some (x4, M)
    else
      ck (gK M x0 = 8) (bR (gR M x0 17) fun q1 => ck (gK M x0 = 8) (bR (gR M x0 17) fun q2 => ck (gK M q2 = 10 ∧ inb ((1207 : Int32) + x1) (gN M q2)) (bd (f_X8_turns (gI M q2 (((1207 : Int32) + x1)).toNatClampNeg) M) fun v4 M3 =>
      ck (gK M3 q1 = 10 ∧ inb ((1207 : Int32) + x1) (gN M3 q1)) (nm (sI M3 q1 (((1207 : Int32) + x1)).toNatClampNeg v4) fun M5 =>
      ck (gK M5 x0 = 8) (bR (gR M5 x0 17) fun q6 => ck (gK M5 q6 = 10 ∧ inb ((1207 : Int32) + x1) (gN M5 q6)) (ck (¬ x3 = 0) (ck (gK M5 x0 = 8) (bd (f_X8_atPlace x0 x1 ((gI M5 q6 (((1207 : Int32) + x1)).toNatClampNeg) - (gI M5 q6 (((1207 : Int32) + x1)).toNatClampNeg) / x3 * x3) M5) fun v8 M7 =>
      ck (gK M7 x0 = 8) (bd (f_X8_retires x0 x1 v8 x5 M7) fun _ M9 =>
      f_X8_loanYear_188 n x0 x1 (x3 + (-1 : Int32)) x4 (x5 + (1 : Int32)) M9))))))))))
set_option maxRecDepth 20000 in
set_option maxHeartbeats 4000000 in
theorem s_X8_loanYear_188 {z : Zt} {K : Int32 → Mm → Prop} (hz : Good z RX8 cX8_loanYear 6 rX8_loanYear (some .int)) (hq : Ret z zI K) : ∀ (n : Nat) (x0 : Nat) (x1 : Int32) (x3 : Int32) (x4 : Int32) (x5 : Int32) (M : Mm), Sim z 188 [(0, .ref x0), (1, .int x1), (3, .int x3), (4, .int x4), (5, .int x5)] [] M 0 0 (f_X8_loanYear_188 n x0 x1 x3 x4 x5 M) K := by
  intro n
  induction n with
  | zero => exact fun _ _ _ _ _ _ => r_none
  | succ n ih =>
    intro x0 x1 x3 x4 x5 M
    unfold f_X8_loanYear_188
    refine r_iload hz dX8_loanYear_188 4 rfl ?_
    refine r_iload hz dX8_loanYear_190 3 rfl ?_
    refine r_icmp_gt (tgt := 251) hz dX8_loanYear_192 rfl ?_ ?_
    · refine r_iload hz dX8_loanYear_251 3 rfl ?_
      exact r_iret hz hq dX8_loanYear_253 (Nat.le_of_ble_eq_true rfl) (Nat.le_of_ble_eq_true rfl)
    · refine r_aload_n hz dX8_loanYear_195 0 rfl ?_
      refine r_getR (j := 17) cl8 hz dX8_loanYear_196 (by decide) wm_5_73 rfl (fun q1 => ?_)
      refine r_sipush (v := 1207) hz dX8_loanYear_199 rfl ?_
      refine r_iload_n hz dX8_loanYear_202 1 rfl ?_
      refine r_iadd hz dX8_loanYear_203 ?_
      refine r_aload_n hz dX8_loanYear_204 0 rfl ?_
      refine r_getR (j := 17) cl8 hz dX8_loanYear_205 (by decide) wm_5_73 rfl (fun q2 => ?_)
      refine r_sipush (v := 1207) hz dX8_loanYear_208 rfl ?_
      refine r_iload_n hz dX8_loanYear_211 1 rfl ?_
      refine r_iadd hz dX8_loanYear_212 ?_
      refine r_iald hz dX8_loanYear_213 ?_
      refine r_callSi (As := fun _ => [.int (gI M q2 (((1207 : Int32) + x1)).toNatClampNeg)]) hz (fun _ _ h => t_X8_turns _ _ _ _ h) cal_X8_turns dX8_loanYear_214 wm_6_143 wm_6_144 rfl rfl (Nat.le_of_ble_eq_true rfl) ⟨(Nat.le_of_ble_eq_true rfl), (Nat.le_of_ble_eq_true rfl)⟩ ⟨(Nat.le_of_ble_eq_true rfl), (Nat.le_of_ble_eq_true rfl)⟩ (fun v4 M3 => ?_)
      refine r_iast hz dX8_loanYear_217 ?_
      refine r_nmM (fun M5 => ?_)
      refine r_aload_n hz dX8_loanYear_218 0 rfl ?_
      refine r_iload_n hz dX8_loanYear_219 1 rfl ?_
      refine r_aload_n hz dX8_loanYear_220 0 rfl ?_
      refine r_iload_n hz dX8_loanYear_221 1 rfl ?_
      refine r_aload_n hz dX8_loanYear_222 0 rfl ?_
      refine r_getR (j := 17) cl8 hz dX8_loanYear_223 (by decide) wm_5_73 rfl (fun q6 => ?_)
      refine r_sipush (v := 1207) hz dX8_loanYear_226 rfl ?_
      refine r_iload_n hz dX8_loanYear_229 1 rfl ?_
      refine r_iadd hz dX8_loanYear_230 ?_
      refine r_iald hz dX8_loanYear_231 ?_
      refine r_iload_n hz dX8_loanYear_232 2 rfl ?_
      refine r_irem hz dX8_loanYear_233 ?_
      refine r_callVi (As := fun _ => [.int x1, .int ((gI M5 q6 (((1207 : Int32) + x1)).toNatClampNeg) - (gI M5 q6 (((1207 : Int32) + x1)).toNatClampNeg) / x3 * x3)]) cl8 hz (fun _ _ h => t_X8_atPlace _ _ _ _ _ _ h) cal_X8_atPlace dX8_loanYear_234 wm_6_148 wm_6_150 wm_p_76 rfl rfl (Nat.le_of_ble_eq_true rfl) ⟨(Nat.le_of_ble_eq_true rfl), (Nat.le_of_ble_eq_true rfl)⟩ ⟨(Nat.le_of_ble_eq_true rfl), (Nat.le_of_ble_eq_true rfl)⟩ (fun v8 M7 => ?_)
      refine r_iload hz dX8_loanYear_237 4 rfl ?_
      refine r_callVv (As := fun _ => [.int x1, .int v8, .int x5]) cl8 hz (fun _ _ h => t_X8_retires _ _ _ _ _ _ _ h) cal_X8_retires dX8_loanYear_239 wm_6_152 wm_6_154 wm_p_77 rfl rfl (Nat.le_of_ble_eq_true rfl) ⟨(Nat.le_of_ble_eq_true rfl), (Nat.le_of_ble_eq_true rfl)⟩ ⟨(Nat.le_of_ble_eq_true rfl), (Nat.le_of_ble_eq_true rfl)⟩ (fun _ M9 => ?_)
      refine r_iinc (v := (x3 + (-1 : Int32))) (lv' := [(3, .int (x3 + (-1 : Int32))), (0, .ref x0), (1, .int x1), (4, .int x4), (5, .int x5)]) hz dX8_loanYear_242 2 rfl rfl (by decide) rfl ?_
      refine r_iinc (v := (x5 + (1 : Int32))) (lv' := [(5, .int (x5 + (1 : Int32))), (3, .int (x3 + (-1 : Int32))), (0, .ref x0), (1, .int x1), (4, .int x4)]) hz dX8_loanYear_245 4 rfl rfl (by decide) rfl ?_
      refine r_goto (tgt := 188) hz dX8_loanYear_248 rfl ?_
      refine r_sub [2, 3, 1, 4, 0] rfl ?_
      exact ih x0 x1 (x3 + (-1 : Int32)) x4 (x5 + (1 : Int32)) M9
def f_X8_loanYear_19 : Nat → Nat → Int32 → Int32 → Int32 → Int32 → Mm → Option (Int32 × Mm)
  | 0, _, _, _, _, _, _ => none
  | n + 1, x0, x1, x2, x3, x4, M =>
    ck (gK M x0 = 8) (bd (f_X8_loanOf x0 x1 (0 : Int32) M) fun v2 M1 =>
    (if v2 < x4 then
      ck (gK M1 x0 = 8) (bR (gR M1 x0 17) fun q3 => ck (gK M1 q3 = 10 ∧ inb ((1211 : Int32) + x1) (gN M1 q3)) (ck (gK M1 x0 = 8) (bd (f_X8_priceOf x0 x1 x2 M1) fun v5 M4 =>
      ck (gK M4 x0 = 8) (bd (f_X8_stay x0 x1 x2 x3 (gI M1 q3 (((1211 : Int32) + x1)).toNatClampNeg) v5 M4) fun v7 M6 =>
      ck (gK M6 x0 = 8) (bR (gR M6 x0 17) fun q8 => ck (gK M6 x0 = 8) (ck (gK M6 q8 = 10 ∧ inb ((1211 : Int32) + x1) (gN M6 q8)) (nm (sI M6 q8 (((1211 : Int32) + x1)).toNatClampNeg (gI M6 x0 22)) fun M9 =>
      ck (gK M9 x0 = 8) (bR (gR M9 x0 17) fun q10 => ck (gK M9 x0 = 8) (bR (gR M9 x0 17) fun q11 => ck (gK M9 q11 = 10 ∧ inb ((1207 : Int32) + x1) (gN M9 q11)) (ck (gK M9 q10 = 10 ∧ inb (((1299 : Int32) + ((21 : Int32) * x1)) + x2) (gN M9 q10)) (nm (sI M9 q10 ((((1299 : Int32) + ((21 : Int32) * x1)) + x2)).toNatClampNeg (gI M9 q11 (((1207 : Int32) + x1)).toNatClampNeg)) fun M12 =>
      f_X8_loanYear_188 FU x0 x1 x3 v7 (1 : Int32) M12)))))))))))
    else
      bd (f_X8_bondAt x1 x4 M1) fun v14 M13 =>
      ck (gK M13 x0 = 8) (bR (gR M13 x0 17) fun q15 => ck (gK M13 q15 = 10 ∧ inb ((0 : Int32) + v14) (gN M13 q15)) ((if ¬ (gI M13 q15 (((0 : Int32) + v14)).toNatClampNeg) = 0 then
        f_X8_loanYear_19 n x0 x1 x2 x3 (x4 + (1 : Int32)) M13
      else
        ck (gK M13 x0 = 8) (bR (gR M13 x0 17) fun q17 => ck (gK M13 q17 = 10 ∧ inb ((960 : Int32) + v14) (gN M13 q17)) (ck (gK M13 x0 = 8) (bd (f_X8_loanOf x0 x1 (2 : Int32) M13) fun v19 M18 =>
        ck (gK M18 q17 = 10 ∧ inb ((960 : Int32) + v14) (gN M18 q17)) (nm (sI M18 q17 (((960 : Int32) + v14)).toNatClampNeg ((gI M13 q17 (((960 : Int32) + v14)).toNatClampNeg) + v19)) fun M20 =>
        ck (gK M20 x0 = 8) (bR (gR M20 x0 17) fun q21 => ck (gK M20 q21 = 10 ∧ inb ((240 : Int32) + v14) (gN M20 q21)) (ck (gK M20 x0 = 8) (bd (f_X8_loanOf x0 x1 (2 : Int32) M20) fun v23 M22 =>
        ck (gK M22 x0 = 8) (bd (f_X8_pays x0 ((gI M20 q21 (((240 : Int32) + v14)).toNatClampNeg) - (1 : Int32)) v23 M22) fun _ M24 =>
        ck (gK M24 x0 = 8) (bR (gR M24 x0 17) fun q25 => ck (gK M24 q25 = 10 ∧ inb ((1383 : Int32) + ((6 : Int32) * x1)) (gN M24 q25)) (ck (gK M24 x0 = 8) (bd (f_X8_loanOf x0 x1 (2 : Int32) M24) fun v27 M26 =>
        ck (gK M26 q25 = 10 ∧ inb ((1383 : Int32) + ((6 : Int32) * x1)) (gN M26 q25)) (nm (sI M26 q25 (((1383 : Int32) + ((6 : Int32) * x1))).toNatClampNeg ((gI M24 q25 (((1383 : Int32) + ((6 : Int32) * x1))).toNatClampNeg) + v27)) fun M28 =>
        f_X8_loanYear_19 n x0 x1 x2 x3 (x4 + (1 : Int32)) M28)))))))))))))))))
set_option maxRecDepth 20000 in
set_option maxHeartbeats 4000000 in
theorem s_X8_loanYear_19 {z : Zt} {K : Int32 → Mm → Prop} (hz : Good z RX8 cX8_loanYear 6 rX8_loanYear (some .int)) (hq : Ret z zI K) : ∀ (n : Nat) (x0 : Nat) (x1 : Int32) (x2 : Int32) (x3 : Int32) (x4 : Int32) (M : Mm), Sim z 19 [(0, .ref x0), (1, .int x1), (2, .int x2), (3, .int x3), (4, .int x4)] [] M 0 0 (f_X8_loanYear_19 n x0 x1 x2 x3 x4 M) K := by
  intro n
  induction n with
  | zero => exact fun _ _ _ _ _ _ => r_none
  | succ n ih =>
    intro x0 x1 x2 x3 x4 M
    unfold f_X8_loanYear_19
    refine r_iload hz dX8_loanYear_19 4 rfl ?_
    refine r_aload_n hz dX8_loanYear_21 0 rfl ?_
    refine r_iload_n hz dX8_loanYear_22 1 rfl ?_
    refine r_iconst (v := 0) hz dX8_loanYear_23 rfl ?_
    refine r_callVi (As := fun _ => [.int x1, .int (0 : Int32)]) cl8 hz (fun _ _ h => t_X8_loanOf _ _ _ _ _ _ h) cal_X8_loanOf dX8_loanYear_24 wm_6_68 wm_6_70 wm_p_66 rfl rfl (Nat.le_of_ble_eq_true rfl) ⟨(Nat.le_of_ble_eq_true rfl), (Nat.le_of_ble_eq_true rfl)⟩ ⟨(Nat.le_of_ble_eq_true rfl), (Nat.le_of_ble_eq_true rfl)⟩ (fun v2 M1 => ?_)
    refine r_icmp_gt (tgt := 121) hz dX8_loanYear_27 rfl ?_ ?_
    · refine r_aload_n hz dX8_loanYear_121 0 rfl ?_
      refine r_iload_n hz dX8_loanYear_122 1 rfl ?_
      refine r_iload_n hz dX8_loanYear_123 2 rfl ?_
      refine r_iload_n hz dX8_loanYear_124 3 rfl ?_
      refine r_aload_n hz dX8_loanYear_125 0 rfl ?_
      refine r_getR (j := 17) cl8 hz dX8_loanYear_126 (by decide) wm_5_73 rfl (fun q3 => ?_)
      refine r_sipush (v := 1211) hz dX8_loanYear_129 rfl ?_
      refine r_iload_n hz dX8_loanYear_132 1 rfl ?_
      refine r_iadd hz dX8_loanYear_133 ?_
      refine r_iald hz dX8_loanYear_134 ?_
      refine r_aload_n hz dX8_loanYear_135 0 rfl ?_
      refine r_iload_n hz dX8_loanYear_136 1 rfl ?_
      refine r_iload_n hz dX8_loanYear_137 2 rfl ?_
      refine r_callVi (As := fun _ => [.int x1, .int x2]) cl8 hz (fun _ _ h => t_X8_priceOf _ _ _ _ _ _ h) cal_X8_priceOf dX8_loanYear_138 wm_6_117 wm_6_119 wm_p_71 rfl rfl (Nat.le_of_ble_eq_true rfl) ⟨(Nat.le_of_ble_eq_true rfl), (Nat.le_of_ble_eq_true rfl)⟩ ⟨(Nat.le_of_ble_eq_true rfl), (Nat.le_of_ble_eq_true rfl)⟩ (fun v5 M4 => ?_)
      refine r_callVi (As := fun _ => [.int x1, .int x2, .int x3, .int (gI M1 q3 (((1211 : Int32) + x1)).toNatClampNeg), .int v5]) cl8 hz (fun _ _ h => t_X8_stay _ _ _ _ _ _ _ _ _ h) cal_X8_stay dX8_loanYear_141 wm_6_139 wm_6_141 wm_p_75 rfl rfl (Nat.le_of_ble_eq_true rfl) ⟨(Nat.le_of_ble_eq_true rfl), (Nat.le_of_ble_eq_true rfl)⟩ ⟨(Nat.le_of_ble_eq_true rfl), (Nat.le_of_ble_eq_true rfl)⟩ (fun v7 M6 => ?_)
      refine r_istore (lv' := [(4, .int v7), (0, .ref x0), (1, .int x1), (2, .int x2), (3, .int x3)]) hz dX8_loanYear_144 (by decide) rfl ?_
      refine r_aload_n hz dX8_loanYear_146 1 rfl ?_
      refine r_getR (j := 17) cl8 hz dX8_loanYear_147 (by decide) wm_5_73 rfl (fun q8 => ?_)
      refine r_sipush (v := 1211) hz dX8_loanYear_150 rfl ?_
      refine r_iload_n hz dX8_loanYear_153 2 rfl ?_
      refine r_iadd hz dX8_loanYear_154 ?_
      refine r_aload_n hz dX8_loanYear_155 1 rfl ?_
      refine r_getI (j := 22) cl8 hz dX8_loanYear_156 (by decide) wm_5_78 rfl ?_
      refine r_iast hz dX8_loanYear_159 ?_
      refine r_nmM (fun M9 => ?_)
      refine r_aload_n hz dX8_loanYear_160 1 rfl ?_
      refine r_getR (j := 17) cl8 hz dX8_loanYear_161 (by decide) wm_5_73 rfl (fun q10 => ?_)
      refine r_sipush (v := 1299) hz dX8_loanYear_164 rfl ?_
      refine r_bipush (v := 21) hz dX8_loanYear_167 rfl ?_
      refine r_iload_n hz dX8_loanYear_169 2 rfl ?_
      refine r_imul hz dX8_loanYear_170 ?_
      refine r_iadd hz dX8_loanYear_171 ?_
      refine r_iload_n hz dX8_loanYear_172 3 rfl ?_
      refine r_iadd hz dX8_loanYear_173 ?_
      refine r_aload_n hz dX8_loanYear_174 1 rfl ?_
      refine r_getR (j := 17) cl8 hz dX8_loanYear_175 (by decide) wm_5_73 rfl (fun q11 => ?_)
      refine r_sipush (v := 1207) hz dX8_loanYear_178 rfl ?_
      refine r_iload_n hz dX8_loanYear_181 2 rfl ?_
      refine r_iadd hz dX8_loanYear_182 ?_
      refine r_iald hz dX8_loanYear_183 ?_
      refine r_iast hz dX8_loanYear_184 ?_
      refine r_nmM (fun M12 => ?_)
      refine r_iconst (v := 1) hz dX8_loanYear_185 rfl ?_
      refine r_istore (lv' := [(5, .int (1 : Int32)), (4, .int v7), (0, .ref x0), (1, .int x1), (2, .int x2), (3, .int x3)]) hz dX8_loanYear_186 (by decide) rfl ?_
      refine r_sub [2, 3, 5, 1, 0] rfl ?_
      exact s_X8_loanYear_188 hz hq FU x0 x1 x3 v7 (1 : Int32) M12
    · refine r_iload_n hz dX8_loanYear_30 1 rfl ?_
      refine r_iload hz dX8_loanYear_31 4 rfl ?_
      refine r_callSi (As := fun _ => [.int x1, .int x4]) hz (fun _ _ h => t_X8_bondAt _ _ _ _ _ h) cal_X8_bondAt dX8_loanYear_33 wm_6_72 wm_6_73 rfl rfl (Nat.le_of_ble_eq_true rfl) ⟨(Nat.le_of_ble_eq_true rfl), (Nat.le_of_ble_eq_true rfl)⟩ ⟨(Nat.le_of_ble_eq_true rfl), (Nat.le_of_ble_eq_true rfl)⟩ (fun v14 M13 => ?_)
      refine r_istore (lv' := [(5, .int v14), (0, .ref x0), (1, .int x1), (2, .int x2), (3, .int x3), (4, .int x4)]) hz dX8_loanYear_36 (by decide) rfl ?_
      refine r_aload_n hz dX8_loanYear_38 1 rfl ?_
      refine r_getR (j := 17) cl8 hz dX8_loanYear_39 (by decide) wm_5_73 rfl (fun q15 => ?_)
      refine r_iconst (v := 0) hz dX8_loanYear_42 rfl ?_
      refine r_iload hz dX8_loanYear_43 0 rfl ?_
      refine r_iadd hz dX8_loanYear_45 ?_
      refine r_iald hz dX8_loanYear_46 ?_
      refine r_if_ne (tgt := 115) hz dX8_loanYear_47 rfl ?_ ?_
      · refine r_iinc (v := (x4 + (1 : Int32))) (lv' := [(4, .int (x4 + (1 : Int32))), (5, .int v14), (0, .ref x0), (1, .int x1), (2, .int x2), (3, .int x3)]) hz dX8_loanYear_115 5 rfl rfl (by decide) rfl ?_
        refine r_goto (tgt := 19) hz dX8_loanYear_118 rfl ?_
        refine r_sub [2, 3, 4, 5, 0] rfl ?_
        exact ih x0 x1 x2 x3 (x4 + (1 : Int32)) M13
      · refine r_aload_n hz dX8_loanYear_50 1 rfl ?_
        refine r_getR (j := 17) cl8 hz dX8_loanYear_51 (by decide) wm_5_73 rfl (fun q17 => ?_)
        refine r_sipush (v := 960) hz dX8_loanYear_54 rfl ?_
        refine r_iload hz dX8_loanYear_57 0 rfl ?_
        refine r_iadd hz dX8_loanYear_59 ?_
        refine r_dup2 hz dX8_loanYear_60 rfl rfl ?_
        refine r_iald hz dX8_loanYear_61 ?_
        refine r_aload_n hz dX8_loanYear_62 1 rfl ?_
        refine r_iload_n hz dX8_loanYear_63 2 rfl ?_
        refine r_iconst (v := 2) hz dX8_loanYear_64 rfl ?_
        refine r_callVi (As := fun _ => [.int x1, .int (2 : Int32)]) cl8 hz (fun _ _ h => t_X8_loanOf _ _ _ _ _ _ h) cal_X8_loanOf dX8_loanYear_65 wm_6_68 wm_6_70 wm_p_66 rfl rfl (Nat.le_of_ble_eq_true rfl) ⟨(Nat.le_of_ble_eq_true rfl), (Nat.le_of_ble_eq_true rfl)⟩ ⟨(Nat.le_of_ble_eq_true rfl), (Nat.le_of_ble_eq_true rfl)⟩ (fun v19 M18 => ?_)
        refine r_iadd hz dX8_loanYear_68 ?_
        refine r_iast hz dX8_loanYear_69 ?_
        refine r_nmM (fun M20 => ?_)
        refine r_aload_n hz dX8_loanYear_70 1 rfl ?_
        refine r_aload_n hz dX8_loanYear_71 1 rfl ?_
        refine r_getR (j := 17) cl8 hz dX8_loanYear_72 (by decide) wm_5_73 rfl (fun q21 => ?_)
        refine r_sipush (v := 240) hz dX8_loanYear_75 rfl ?_
        refine r_iload hz dX8_loanYear_78 0 rfl ?_
        refine r_iadd hz dX8_loanYear_80 ?_
        refine r_iald hz dX8_loanYear_81 ?_
        refine r_iconst (v := 1) hz dX8_loanYear_82 rfl ?_
        refine r_isub hz dX8_loanYear_83 ?_
        refine r_aload_n hz dX8_loanYear_84 1 rfl ?_
        refine r_iload_n hz dX8_loanYear_85 2 rfl ?_
        refine r_iconst (v := 2) hz dX8_loanYear_86 rfl ?_
        refine r_callVi (As := fun _ => [.int x1, .int (2 : Int32)]) cl8 hz (fun _ _ h => t_X8_loanOf _ _ _ _ _ _ h) cal_X8_loanOf dX8_loanYear_87 wm_6_68 wm_6_70 wm_p_66 rfl rfl (Nat.le_of_ble_eq_true rfl) ⟨(Nat.le_of_ble_eq_true rfl), (Nat.le_of_ble_eq_true rfl)⟩ ⟨(Nat.le_of_ble_eq_true rfl), (Nat.le_of_ble_eq_true rfl)⟩ (fun v23 M22 => ?_)
        refine r_callVv (As := fun _ => [.int ((gI M20 q21 (((240 : Int32) + v14)).toNatClampNeg) - (1 : Int32)), .int v23]) cl8 hz (fun _ _ h => t_X8_pays _ _ _ _ _ _ h) cal_X8_pays dX8_loanYear_90 wm_6_133 wm_6_135 wm_p_74 rfl rfl (Nat.le_of_ble_eq_true rfl) ⟨(Nat.le_of_ble_eq_true rfl), (Nat.le_of_ble_eq_true rfl)⟩ ⟨(Nat.le_of_ble_eq_true rfl), (Nat.le_of_ble_eq_true rfl)⟩ (fun _ M24 => ?_)
        refine r_aload_n hz dX8_loanYear_93 1 rfl ?_
        refine r_getR (j := 17) cl8 hz dX8_loanYear_94 (by decide) wm_5_73 rfl (fun q25 => ?_)
        refine r_sipush (v := 1383) hz dX8_loanYear_97 rfl ?_
        refine r_bipush (v := 6) hz dX8_loanYear_100 rfl ?_
        refine r_iload_n hz dX8_loanYear_102 2 rfl ?_
        refine r_imul hz dX8_loanYear_103 ?_
        refine r_iadd hz dX8_loanYear_104 ?_
        refine r_dup2 hz dX8_loanYear_105 rfl rfl ?_
        refine r_iald hz dX8_loanYear_106 ?_
        refine r_aload_n hz dX8_loanYear_107 1 rfl ?_
        refine r_iload_n hz dX8_loanYear_108 2 rfl ?_
        refine r_iconst (v := 2) hz dX8_loanYear_109 rfl ?_
        refine r_callVi (As := fun _ => [.int x1, .int (2 : Int32)]) cl8 hz (fun _ _ h => t_X8_loanOf _ _ _ _ _ _ h) cal_X8_loanOf dX8_loanYear_110 wm_6_68 wm_6_70 wm_p_66 rfl rfl (Nat.le_of_ble_eq_true rfl) ⟨(Nat.le_of_ble_eq_true rfl), (Nat.le_of_ble_eq_true rfl)⟩ ⟨(Nat.le_of_ble_eq_true rfl), (Nat.le_of_ble_eq_true rfl)⟩ (fun v27 M26 => ?_)
        refine r_iadd hz dX8_loanYear_113 ?_
        refine r_iast hz dX8_loanYear_114 ?_
        refine r_nmM (fun M28 => ?_)
        refine r_iinc (v := (x4 + (1 : Int32))) (lv' := [(4, .int (x4 + (1 : Int32))), (5, .int v14), (0, .ref x0), (1, .int x1), (2, .int x2), (3, .int x3)]) hz dX8_loanYear_115 5 rfl rfl (by decide) rfl ?_
        refine r_goto (tgt := 19) hz dX8_loanYear_118 rfl ?_
        refine r_sub [2, 3, 4, 5, 0] rfl ?_
        exact ih x0 x1 x2 x3 (x4 + (1 : Int32)) M28
def f_X8_loanYear (p0 : Nat) (p1 : Int32) (M : Mm) : Option (Int32 × Mm) :=
  ck (gK M p0 = 8) (bR (gR M p0 17) fun q1 => ck (gK M q1 = 10 ∧ inb (1206 : Int32) (gN M q1)) (nm (gI M q1 ((1206 : Int32)).toNatClampNeg) fun v2 =>
  ck (gK M p0 = 8) (bd (f_X8_howMany p0 p1 (0 : Int32) M) fun v4 M3 =>
  f_X8_loanYear_19 FU p0 p1 v2 v4 (1 : Int32) M3)))
set_option maxRecDepth 20000 in
set_option maxHeartbeats 4000000 in
theorem t_X8_loanYear (p0 : Nat) (p1 : Int32) (M : Mm) (x : Int32) (M' : Mm) (h : f_X8_loanYear p0 p1 M = some (x, M')) : Ctr yX8_loanYear cX8_loanYear 6 (some .int) rX8_loanYear (fun _ => [.ref p0, .int p1]) M (zI x) M' := by
  refine ctr_of (plainFor_of_name (by decide)) (fun _ => Nat.le_of_ble_eq_true rfl) (fun z hz hin hq => ?_)
  have key : Sim z 0 [(0, .ref p0), (1, .int p1)] [] M 0 0 (f_X8_loanYear p0 p1 M) (fun a b => a = x ∧ b = M') := by
    have hq : Ret z zI (fun a b => a = x ∧ b = M') := fun a b e => by rw [e.1, e.2]; exact hq
    unfold f_X8_loanYear
    refine r_aload_n hz dX8_loanYear_0 0 rfl ?_
    refine r_getR (j := 17) cl8 hz dX8_loanYear_1 (by decide) wm_5_73 rfl (fun q1 => ?_)
    refine r_sipush (v := 1206) hz dX8_loanYear_4 rfl ?_
    refine r_iald hz dX8_loanYear_7 ?_
    refine r_nmi (fun v2 => ?_)
    refine r_istore_n (lv' := [(2, .int v2), (0, .ref p0), (1, .int p1)]) hz dX8_loanYear_8 (by decide) rfl ?_
    refine r_aload_n hz dX8_loanYear_9 1 rfl ?_
    refine r_iload_n hz dX8_loanYear_10 2 rfl ?_
    refine r_iconst (v := 0) hz dX8_loanYear_11 rfl ?_
    refine r_callVi (As := fun _ => [.int p1, .int (0 : Int32)]) cl8 hz (fun _ _ h => t_X8_howMany _ _ _ _ _ _ h) cal_X8_howMany dX8_loanYear_12 wm_6_64 wm_6_66 wm_p_65 rfl rfl (Nat.le_of_ble_eq_true rfl) ⟨(Nat.le_of_ble_eq_true rfl), (Nat.le_of_ble_eq_true rfl)⟩ ⟨(Nat.le_of_ble_eq_true rfl), (Nat.le_of_ble_eq_true rfl)⟩ (fun v4 M3 => ?_)
    refine r_istore_n (lv' := [(3, .int v4), (2, .int v2), (0, .ref p0), (1, .int p1)]) hz dX8_loanYear_15 (by decide) rfl ?_
    refine r_iconst (v := 1) hz dX8_loanYear_16 rfl ?_
    refine r_istore (lv' := [(4, .int (1 : Int32)), (3, .int v4), (2, .int v2), (0, .ref p0), (1, .int p1)]) hz dX8_loanYear_17 (by decide) rfl ?_
    refine r_sub [3, 4, 2, 1, 0] rfl ?_
    exact s_X8_loanYear_19 hz hq FU p0 p1 v2 v4 (1 : Int32) M3
  exact key x M' h ⟨rfl, rfl⟩
