theorem dX8_lapses_0 : decode cX8_lapses 0 = .ok (.iconst 1, 1) := by decide +kernel
theorem dX8_lapses_1 : decode cX8_lapses 1 = .ok (.istore_n 2, 1) := by decide +kernel
theorem dX8_lapses_2 : decode cX8_lapses 2 = .ok (.iload_n 2, 1) := by decide +kernel
theorem dX8_lapses_3 : decode cX8_lapses 3 = .ok (.aload_n 0, 1) := by decide +kernel
theorem dX8_lapses_4 : decode cX8_lapses 4 = .ok (.iload_n 1, 1) := by decide +kernel
theorem dX8_lapses_5 : decode cX8_lapses 5 = .ok (.iconst 0, 1) := by decide +kernel
theorem dX8_lapses_6 : decode cX8_lapses 6 = .ok (.invokevirtual 225, 3) := by decide +kernel
theorem dX8_lapses_9 : decode cX8_lapses 9 = .ok (.if_icmp .gt 89, 3) := by decide +kernel
theorem dX8_lapses_12 : decode cX8_lapses 12 = .ok (.iload_n 1, 1) := by decide +kernel
theorem dX8_lapses_13 : decode cX8_lapses 13 = .ok (.iload_n 2, 1) := by decide +kernel
theorem dX8_lapses_14 : decode cX8_lapses 14 = .ok (.invokestatic 229, 3) := by decide +kernel
theorem dX8_lapses_17 : decode cX8_lapses 17 = .ok (.istore_n 3, 1) := by decide +kernel
theorem dX8_lapses_18 : decode cX8_lapses 18 = .ok (.aload_n 0, 1) := by decide +kernel
theorem dX8_lapses_19 : decode cX8_lapses 19 = .ok (.getfield 20, 3) := by decide +kernel
theorem dX8_lapses_22 : decode cX8_lapses 22 = .ok (.iconst 0, 1) := by decide +kernel
theorem dX8_lapses_23 : decode cX8_lapses 23 = .ok (.iload_n 3, 1) := by decide +kernel
theorem dX8_lapses_24 : decode cX8_lapses 24 = .ok (.iadd, 1) := by decide +kernel
theorem dX8_lapses_25 : decode cX8_lapses 25 = .ok (.iaload, 1) := by decide +kernel
theorem dX8_lapses_26 : decode cX8_lapses 26 = .ok (.iconst 1, 1) := by decide +kernel
theorem dX8_lapses_27 : decode cX8_lapses 27 = .ok (.if_icmp .ne 65, 3) := by decide +kernel
theorem dX8_lapses_30 : decode cX8_lapses 30 = .ok (.aload_n 0, 1) := by decide +kernel
theorem dX8_lapses_31 : decode cX8_lapses 31 = .ok (.getfield 20, 3) := by decide +kernel
theorem dX8_lapses_34 : decode cX8_lapses 34 = .ok (.sipush 1206, 3) := by decide +kernel
theorem dX8_lapses_37 : decode cX8_lapses 37 = .ok (.iaload, 1) := by decide +kernel
theorem dX8_lapses_38 : decode cX8_lapses 38 = .ok (.aload_n 0, 1) := by decide +kernel
theorem dX8_lapses_39 : decode cX8_lapses 39 = .ok (.getfield 20, 3) := by decide +kernel
theorem dX8_lapses_42 : decode cX8_lapses 42 = .ok (.sipush 480, 3) := by decide +kernel
theorem dX8_lapses_45 : decode cX8_lapses 45 = .ok (.iload_n 3, 1) := by decide +kernel
theorem dX8_lapses_46 : decode cX8_lapses 46 = .ok (.iadd, 1) := by decide +kernel
theorem dX8_lapses_47 : decode cX8_lapses 47 = .ok (.iaload, 1) := by decide +kernel
theorem dX8_lapses_48 : decode cX8_lapses 48 = .ok (.isub, 1) := by decide +kernel
theorem dX8_lapses_49 : decode cX8_lapses 49 = .ok (.aload_n 0, 1) := by decide +kernel
theorem dX8_lapses_50 : decode cX8_lapses 50 = .ok (.iload_n 1, 1) := by decide +kernel
theorem dX8_lapses_51 : decode cX8_lapses 51 = .ok (.bipush 6, 2) := by decide +kernel
theorem dX8_lapses_53 : decode cX8_lapses 53 = .ok (.invokevirtual 225, 3) := by decide +kernel
theorem dX8_lapses_56 : decode cX8_lapses 56 = .ok (.if_icmp .lt 36, 3) := by decide +kernel
theorem dX8_lapses_59 : decode cX8_lapses 59 = .ok (.aload_n 0, 1) := by decide +kernel
theorem dX8_lapses_60 : decode cX8_lapses 60 = .ok (.getfield 20, 3) := by decide +kernel
theorem dX8_lapses_63 : decode cX8_lapses 63 = .ok (.iconst 0, 1) := by decide +kernel
theorem dX8_lapses_64 : decode cX8_lapses 64 = .ok (.iload_n 3, 1) := by decide +kernel
theorem dX8_lapses_65 : decode cX8_lapses 65 = .ok (.iadd, 1) := by decide +kernel
theorem dX8_lapses_66 : decode cX8_lapses 66 = .ok (.iconst 4, 1) := by decide +kernel
theorem dX8_lapses_67 : decode cX8_lapses 67 = .ok (.iastore, 1) := by decide +kernel
theorem dX8_lapses_68 : decode cX8_lapses 68 = .ok (.aload_n 0, 1) := by decide +kernel
theorem dX8_lapses_69 : decode cX8_lapses 69 = .ok (.getfield 20, 3) := by decide +kernel
theorem dX8_lapses_72 : decode cX8_lapses 72 = .ok (.sipush 1383, 3) := by decide +kernel
theorem dX8_lapses_75 : decode cX8_lapses 75 = .ok (.bipush 6, 2) := by decide +kernel
theorem dX8_lapses_77 : decode cX8_lapses 77 = .ok (.iload_n 1, 1) := by decide +kernel
theorem dX8_lapses_78 : decode cX8_lapses 78 = .ok (.imul, 1) := by decide +kernel
theorem dX8_lapses_79 : decode cX8_lapses 79 = .ok (.iadd, 1) := by decide +kernel
theorem dX8_lapses_80 : decode cX8_lapses 80 = .ok (.iconst 3, 1) := by decide +kernel
theorem dX8_lapses_81 : decode cX8_lapses 81 = .ok (.iadd, 1) := by decide +kernel
theorem dX8_lapses_82 : decode cX8_lapses 82 = .ok (.dup2, 1) := by decide +kernel
theorem dX8_lapses_83 : decode cX8_lapses 83 = .ok (.iaload, 1) := by decide +kernel
theorem dX8_lapses_84 : decode cX8_lapses 84 = .ok (.aload_n 0, 1) := by decide +kernel
theorem dX8_lapses_85 : decode cX8_lapses 85 = .ok (.iload_n 1, 1) := by decide +kernel
theorem dX8_lapses_86 : decode cX8_lapses 86 = .ok (.iload_n 2, 1) := by decide +kernel
theorem dX8_lapses_87 : decode cX8_lapses 87 = .ok (.invokevirtual 299, 3) := by decide +kernel
theorem dX8_lapses_90 : decode cX8_lapses 90 = .ok (.iadd, 1) := by decide +kernel
theorem dX8_lapses_91 : decode cX8_lapses 91 = .ok (.iastore, 1) := by decide +kernel
theorem dX8_lapses_92 : decode cX8_lapses 92 = .ok (.iinc 2 1, 3) := by decide +kernel
theorem dX8_lapses_95 : decode cX8_lapses 95 = .ok (.goto (-93), 3) := by decide +kernel
theorem dX8_lapses_98 : decode cX8_lapses 98 = .ok (.return_, 1) := by decide +kernel
abbrev rX8_lapses : Room := { frames := 2, cells := 0, slots := 0, locals := 44 }
theorem cal_X8_lapses : CalOk yX8_lapses cX8_lapses 4 none 1 := ⟨wm_6_159, wm_1_9, by decide, by decide, by decide +kernel⟩
def f_X8_lapses_2 : Nat → Nat → Int32 → Int32 → Mm → Option (Unit × Mm)
  | 0, _, _, _, _ => none
  | n + 1, x0, x1, x2, M =>
    ck (gK M x0 = 8) (bd (f_X8_loanOf x0 x1 (0 : Int32) M) fun v2 M1 =>
    (if v2 < x2 then
      some ((), M1)
    else
      bd (f_X8_bondAt x1 x2 M1) fun v4 M3 =>
      ck (gK M3 x0 = 8) (bR (gR M3 x0 17) fun q5 => ck (gK M3 q5 = 10 ∧ inb ((0 : Int32) + v4) (gN M3 q5)) ((if ¬ (gI M3 q5 (((0 : Int32) + v4)).toNatClampNeg) = (1 : Int32) then
        f_X8_lapses_2 n x0 x1 (x2 + (1 : Int32)) M3
      else
        ck (gK M3 x0 = 8) (bR (gR M3 x0 17) fun q7 => ck (gK M3 q7 = 10 ∧ inb (1206 : Int32) (gN M3 q7)) (ck (gK M3 x0 = 8) (bR (gR M3 x0 17) fun q8 => ck (gK M3 q8 = 10 ∧ inb ((480 : Int32) + v4) (gN M3 q8)) (ck (gK M3 x0 = 8) (bd (f_X8_loanOf x0 x1 (6 : Int32) M3) fun v10 M9 =>
        (if ((gI M3 q7 ((1206 : Int32)).toNatClampNeg) - (gI M3 q8 (((480 : Int32) + v4)).toNatClampNeg)) < v10 then
          f_X8_lapses_2 n x0 x1 (x2 + (1 : Int32)) M9
        else
          ck (gK M9 x0 = 8) (bR (gR M9 x0 17) fun q12 => ck (gK M9 q12 = 10 ∧ inb ((0 : Int32) + v4) (gN M9 q12)) (nm (sI M9 q12 (((0 : Int32) + v4)).toNatClampNeg (4 : Int32)) fun M13 =>
          ck (gK M13 x0 = 8) (bR (gR M13 x0 17) fun q14 => ck (gK M13 q14 = 10 ∧ inb (((1383 : Int32) + ((6 : Int32) * x1)) + (3 : Int32)) (gN M13 q14)) (ck (gK M13 x0 = 8) (bd (f_X8_owedFor x0 x1 x2 M13) fun v16 M15 =>
          ck (gK M15 q14 = 10 ∧ inb (((1383 : Int32) + ((6 : Int32) * x1)) + (3 : Int32)) (gN M15 q14)) (nm (sI M15 q14 ((((1383 : Int32) + ((6 : Int32) * x1)) + (3 : Int32))).toNatClampNeg ((gI M13 q14 ((((1383 : Int32) + ((6 : Int32) * x1)) + (3 : Int32))).toNatClampNeg) + v16)) fun M17 =>
          f_X8_lapses_2 n x0 x1 (x2 + (1 : Int32)) M17)))))))))))))))))
set_option maxRecDepth 20000 in
set_option maxHeartbeats 4000000 in
theorem s_X8_lapses_2 {z : Zt} {K : Unit → Mm → Prop} (hz : Good z RX8 cX8_lapses 4 rX8_lapses none) (hq : Ret z zU K) : ∀ (n : Nat) (x0 : Nat) (x1 : Int32) (x2 : Int32) (M : Mm), Sim z 2 [(0, .ref x0), (1, .int x1), (2, .int x2)] [] M 0 0 (f_X8_lapses_2 n x0 x1 x2 M) K := by
  intro n
  induction n with
  | zero => exact fun _ _ _ _ => r_none
  | succ n ih =>
    intro x0 x1 x2 M
    unfold f_X8_lapses_2
    refine r_iload_n hz dX8_lapses_2 2 rfl ?_
    refine r_aload_n hz dX8_lapses_3 0 rfl ?_
    refine r_iload_n hz dX8_lapses_4 1 rfl ?_
    refine r_iconst (v := 0) hz dX8_lapses_5 rfl ?_
    refine r_callVi (As := fun _ => [.int x1, .int (0 : Int32)]) cl8 hz (fun _ _ h => t_X8_loanOf _ _ _ _ _ _ h) cal_X8_loanOf dX8_lapses_6 wm_6_68 wm_6_70 wm_p_66 rfl rfl (Nat.le_of_ble_eq_true rfl) ⟨(Nat.le_of_ble_eq_true rfl), (Nat.le_of_ble_eq_true rfl)⟩ ⟨(Nat.le_of_ble_eq_true rfl), (Nat.le_of_ble_eq_true rfl)⟩ (fun v2 M1 => ?_)
    refine r_icmp_gt (tgt := 98) hz dX8_lapses_9 rfl ?_ ?_
    · exact r_vret hz hq dX8_lapses_98 (Nat.le_of_ble_eq_true rfl) (Nat.le_of_ble_eq_true rfl)
    · refine r_iload_n hz dX8_lapses_12 1 rfl ?_
      refine r_iload_n hz dX8_lapses_13 2 rfl ?_
      refine r_callSi (As := fun _ => [.int x1, .int x2]) hz (fun _ _ h => t_X8_bondAt _ _ _ _ _ h) cal_X8_bondAt dX8_lapses_14 wm_6_72 wm_6_73 rfl rfl (Nat.le_of_ble_eq_true rfl) ⟨(Nat.le_of_ble_eq_true rfl), (Nat.le_of_ble_eq_true rfl)⟩ ⟨(Nat.le_of_ble_eq_true rfl), (Nat.le_of_ble_eq_true rfl)⟩ (fun v4 M3 => ?_)
      refine r_istore_n (lv' := [(3, .int v4), (0, .ref x0), (1, .int x1), (2, .int x2)]) hz dX8_lapses_17 (by decide) rfl ?_
      refine r_aload_n hz dX8_lapses_18 1 rfl ?_
      refine r_getR (j := 17) cl8 hz dX8_lapses_19 (by decide) wm_5_73 rfl (fun q5 => ?_)
      refine r_iconst (v := 0) hz dX8_lapses_22 rfl ?_
      refine r_iload_n hz dX8_lapses_23 0 rfl ?_
      refine r_iadd hz dX8_lapses_24 ?_
      refine r_iald hz dX8_lapses_25 ?_
      refine r_iconst (v := 1) hz dX8_lapses_26 rfl ?_
      refine r_icmp_ne (tgt := 92) hz dX8_lapses_27 rfl ?_ ?_
      · refine r_iinc (v := (x2 + (1 : Int32))) (lv' := [(2, .int (x2 + (1 : Int32))), (3, .int v4), (0, .ref x0), (1, .int x1)]) hz dX8_lapses_92 3 rfl rfl (by decide) rfl ?_
        refine r_goto (tgt := 2) hz dX8_lapses_95 rfl ?_
        refine r_sub [2, 3, 0] rfl ?_
        exact ih x0 x1 (x2 + (1 : Int32)) M3
      · refine r_aload_n hz dX8_lapses_30 1 rfl ?_
        refine r_getR (j := 17) cl8 hz dX8_lapses_31 (by decide) wm_5_73 rfl (fun q7 => ?_)
        refine r_sipush (v := 1206) hz dX8_lapses_34 rfl ?_
        refine r_iald hz dX8_lapses_37 ?_
        refine r_aload_n hz dX8_lapses_38 1 rfl ?_
        refine r_getR (j := 17) cl8 hz dX8_lapses_39 (by decide) wm_5_73 rfl (fun q8 => ?_)
        refine r_sipush (v := 480) hz dX8_lapses_42 rfl ?_
        refine r_iload_n hz dX8_lapses_45 0 rfl ?_
        refine r_iadd hz dX8_lapses_46 ?_
        refine r_iald hz dX8_lapses_47 ?_
        refine r_isub hz dX8_lapses_48 ?_
        refine r_aload_n hz dX8_lapses_49 1 rfl ?_
        refine r_iload_n hz dX8_lapses_50 2 rfl ?_
        refine r_bipush (v := 6) hz dX8_lapses_51 rfl ?_
        refine r_callVi (As := fun _ => [.int x1, .int (6 : Int32)]) cl8 hz (fun _ _ h => t_X8_loanOf _ _ _ _ _ _ h) cal_X8_loanOf dX8_lapses_53 wm_6_68 wm_6_70 wm_p_66 rfl rfl (Nat.le_of_ble_eq_true rfl) ⟨(Nat.le_of_ble_eq_true rfl), (Nat.le_of_ble_eq_true rfl)⟩ ⟨(Nat.le_of_ble_eq_true rfl), (Nat.le_of_ble_eq_true rfl)⟩ (fun v10 M9 => ?_)
        refine r_icmp_lt (tgt := 92) hz dX8_lapses_56 rfl ?_ ?_
        · refine r_iinc (v := (x2 + (1 : Int32))) (lv' := [(2, .int (x2 + (1 : Int32))), (3, .int v4), (0, .ref x0), (1, .int x1)]) hz dX8_lapses_92 3 rfl rfl (by decide) rfl ?_
          refine r_goto (tgt := 2) hz dX8_lapses_95 rfl ?_
          refine r_sub [2, 3, 0] rfl ?_
          exact ih x0 x1 (x2 + (1 : Int32)) M9
        · refine r_aload_n hz dX8_lapses_59 1 rfl ?_
          refine r_getR (j := 17) cl8 hz dX8_lapses_60 (by decide) wm_5_73 rfl (fun q12 => ?_)
          refine r_iconst (v := 0) hz dX8_lapses_63 rfl ?_
          refine r_iload_n hz dX8_lapses_64 0 rfl ?_
          refine r_iadd hz dX8_lapses_65 ?_
          refine r_iconst (v := 4) hz dX8_lapses_66 rfl ?_
          refine r_iast hz dX8_lapses_67 ?_
          refine r_nmM (fun M13 => ?_)
          refine r_aload_n hz dX8_lapses_68 1 rfl ?_
          refine r_getR (j := 17) cl8 hz dX8_lapses_69 (by decide) wm_5_73 rfl (fun q14 => ?_)
          refine r_sipush (v := 1383) hz dX8_lapses_72 rfl ?_
          refine r_bipush (v := 6) hz dX8_lapses_75 rfl ?_
          refine r_iload_n hz dX8_lapses_77 2 rfl ?_
          refine r_imul hz dX8_lapses_78 ?_
          refine r_iadd hz dX8_lapses_79 ?_
          refine r_iconst (v := 3) hz dX8_lapses_80 rfl ?_
          refine r_iadd hz dX8_lapses_81 ?_
          refine r_dup2 hz dX8_lapses_82 rfl rfl ?_
          refine r_iald hz dX8_lapses_83 ?_
          refine r_aload_n hz dX8_lapses_84 1 rfl ?_
          refine r_iload_n hz dX8_lapses_85 2 rfl ?_
          refine r_iload_n hz dX8_lapses_86 3 rfl ?_
          refine r_callVi (As := fun _ => [.int x1, .int x2]) cl8 hz (fun _ _ h => t_X8_owedFor _ _ _ _ _ _ h) cal_X8_owedFor dX8_lapses_87 wm_6_160 wm_6_162 wm_p_79 rfl rfl (Nat.le_of_ble_eq_true rfl) ⟨(Nat.le_of_ble_eq_true rfl), (Nat.le_of_ble_eq_true rfl)⟩ ⟨(Nat.le_of_ble_eq_true rfl), (Nat.le_of_ble_eq_true rfl)⟩ (fun v16 M15 => ?_)
          refine r_iadd hz dX8_lapses_90 ?_
          refine r_iast hz dX8_lapses_91 ?_
          refine r_nmM (fun M17 => ?_)
          refine r_iinc (v := (x2 + (1 : Int32))) (lv' := [(2, .int (x2 + (1 : Int32))), (3, .int v4), (0, .ref x0), (1, .int x1)]) hz dX8_lapses_92 3 rfl rfl (by decide) rfl ?_
          refine r_goto (tgt := 2) hz dX8_lapses_95 rfl ?_
          refine r_sub [2, 3, 0] rfl ?_
          exact ih x0 x1 (x2 + (1 : Int32)) M17
def f_X8_lapses (p0 : Nat) (p1 : Int32) (M : Mm) : Option (Unit × Mm) :=
  f_X8_lapses_2 FU p0 p1 (1 : Int32) M
set_option maxRecDepth 20000 in
set_option maxHeartbeats 4000000 in
theorem t_X8_lapses (p0 : Nat) (p1 : Int32) (M : Mm) (x : Unit) (M' : Mm) (h : f_X8_lapses p0 p1 M = some (x, M')) : Ctr yX8_lapses cX8_lapses 4 none rX8_lapses (fun _ => [.ref p0, .int p1]) M (zU x) M' := by
  refine ctr_of (plainFor_of_name (by decide)) (fun _ => Nat.le_of_ble_eq_true rfl) (fun z hz hin hq => ?_)
  have key : Sim z 0 [(0, .ref p0), (1, .int p1)] [] M 0 0 (f_X8_lapses p0 p1 M) (fun a b => a = x ∧ b = M') := by
    have hq : Ret z zU (fun a b => a = x ∧ b = M') := fun a b e => by rw [e.1, e.2]; exact hq
    unfold f_X8_lapses
    refine r_iconst (v := 1) hz dX8_lapses_0 rfl ?_
    refine r_istore_n (lv' := [(2, .int (1 : Int32)), (0, .ref p0), (1, .int p1)]) hz dX8_lapses_1 (by decide) rfl ?_
    refine r_sub [1, 2, 0] rfl ?_
    exact s_X8_lapses_2 hz hq FU p0 p1 (1 : Int32) M
  exact key x M' h ⟨rfl, rfl⟩
theorem dX8_keeps_0 : decode cX8_keeps 0 = .ok (.aload_n 0, 1) := by decide +kernel
theorem dX8_keeps_1 : decode cX8_keeps 1 = .ok (.getfield 219, 3) := by decide +kernel
theorem dX8_keeps_4 : decode cX8_keeps 4 = .ok (.bipush 12, 2) := by decide +kernel
theorem dX8_keeps_6 : decode cX8_keeps 6 = .ok (.if_icmp .ne 44, 3) := by decide +kernel
theorem dX8_keeps_9 : decode cX8_keeps 9 = .ok (.iconst 0, 1) := by decide +kernel
theorem dX8_keeps_10 : decode cX8_keeps 10 = .ok (.istore_n 1, 1) := by decide +kernel
theorem dX8_keeps_11 : decode cX8_keeps 11 = .ok (.iload_n 1, 1) := by decide +kernel
theorem dX8_keeps_12 : decode cX8_keeps 12 = .ok (.sipush 15477, 3) := by decide +kernel
theorem dX8_keeps_15 : decode cX8_keeps 15 = .ok (.if_icmp .ge 25, 3) := by decide +kernel
theorem dX8_keeps_18 : decode cX8_keeps 18 = .ok (.aload_n 0, 1) := by decide +kernel
theorem dX8_keeps_19 : decode cX8_keeps 19 = .ok (.getfield 26, 3) := by decide +kernel
theorem dX8_keeps_22 : decode cX8_keeps 22 = .ok (.iload_n 1, 1) := by decide +kernel
theorem dX8_keeps_23 : decode cX8_keeps 23 = .ok (.aload_n 0, 1) := by decide +kernel
theorem dX8_keeps_24 : decode cX8_keeps 24 = .ok (.getfield 26, 3) := by decide +kernel
theorem dX8_keeps_27 : decode cX8_keeps 27 = .ok (.iload_n 1, 1) := by decide +kernel
theorem dX8_keeps_28 : decode cX8_keeps 28 = .ok (.sipush 1407, 3) := by decide +kernel
theorem dX8_keeps_31 : decode cX8_keeps 31 = .ok (.iadd, 1) := by decide +kernel
theorem dX8_keeps_32 : decode cX8_keeps 32 = .ok (.iaload, 1) := by decide +kernel
theorem dX8_keeps_33 : decode cX8_keeps 33 = .ok (.iastore, 1) := by decide +kernel
theorem dX8_keeps_34 : decode cX8_keeps 34 = .ok (.iinc 1 1, 3) := by decide +kernel
theorem dX8_keeps_37 : decode cX8_keeps 37 = .ok (.goto (-26), 3) := by decide +kernel
theorem dX8_keeps_40 : decode cX8_keeps 40 = .ok (.aload_n 0, 1) := by decide +kernel
theorem dX8_keeps_41 : decode cX8_keeps 41 = .ok (.dup, 1) := by decide +kernel
theorem dX8_keeps_42 : decode cX8_keeps 42 = .ok (.getfield 219, 3) := by decide +kernel
theorem dX8_keeps_45 : decode cX8_keeps 45 = .ok (.iconst 1, 1) := by decide +kernel
theorem dX8_keeps_46 : decode cX8_keeps 46 = .ok (.isub, 1) := by decide +kernel
theorem dX8_keeps_47 : decode cX8_keeps 47 = .ok (.putfield 219, 3) := by decide +kernel
theorem dX8_keeps_50 : decode cX8_keeps 50 = .ok (.aload_n 0, 1) := by decide +kernel
theorem dX8_keeps_51 : decode cX8_keeps 51 = .ok (.getfield 20, 3) := by decide +kernel
theorem dX8_keeps_54 : decode cX8_keeps 54 = .ok (.iconst 0, 1) := by decide +kernel
theorem dX8_keeps_55 : decode cX8_keeps 55 = .ok (.aload_n 0, 1) := by decide +kernel
theorem dX8_keeps_56 : decode cX8_keeps 56 = .ok (.getfield 26, 3) := by decide +kernel
theorem dX8_keeps_59 : decode cX8_keeps 59 = .ok (.sipush 1407, 3) := by decide +kernel
theorem dX8_keeps_62 : decode cX8_keeps 62 = .ok (.aload_n 0, 1) := by decide +kernel
theorem dX8_keeps_63 : decode cX8_keeps 63 = .ok (.getfield 219, 3) := by decide +kernel
theorem dX8_keeps_66 : decode cX8_keeps 66 = .ok (.imul, 1) := by decide +kernel
theorem dX8_keeps_67 : decode cX8_keeps 67 = .ok (.invokestatic 215, 3) := by decide +kernel
theorem dX8_keeps_70 : decode cX8_keeps 70 = .ok (.aload_n 0, 1) := by decide +kernel
theorem dX8_keeps_71 : decode cX8_keeps 71 = .ok (.dup, 1) := by decide +kernel
theorem dX8_keeps_72 : decode cX8_keeps 72 = .ok (.getfield 219, 3) := by decide +kernel
theorem dX8_keeps_75 : decode cX8_keeps 75 = .ok (.iconst 1, 1) := by decide +kernel
theorem dX8_keeps_76 : decode cX8_keeps 76 = .ok (.iadd, 1) := by decide +kernel
theorem dX8_keeps_77 : decode cX8_keeps 77 = .ok (.putfield 219, 3) := by decide +kernel
theorem dX8_keeps_80 : decode cX8_keeps 80 = .ok (.return_, 1) := by decide +kernel
abbrev rX8_keeps : Room := { frames := 1, cells := 0, slots := 0, locals := 24 }
theorem cal_X8_keeps : CalOk yX8_keeps cX8_keeps 2 none 0 := ⟨wm_6_128, wm_1_9, by decide, by decide, by decide +kernel⟩
def f_X8_keeps_50 (x0 : Nat) (M : Mm) : Option (Unit × Mm) :=
  ck (gK M x0 = 8) (bR (gR M x0 17) fun q1 => ck (gK M x0 = 8) (bR (gR M x0 24) fun q2 => ck (gK M x0 = 8) (bd (f_X8_copies q1 (0 : Int32) q2 ((1407 : Int32) * (gI M x0 23)) M) fun _ M3 =>
  ck (gK M3 x0 = 8) (ck (gK M3 x0 = 8) (nm (sI M3 x0 23 ((gI M3 x0 23) + (1 : Int32))) fun M4 =>
  some ((), M4))))))
set_option maxRecDepth 20000 in
set_option maxHeartbeats 4000000 in
theorem s_X8_keeps_50 {z : Zt} {K : Unit → Mm → Prop} (hz : Good z RX8 cX8_keeps 2 rX8_keeps none) (hq : Ret z zU K) : ∀ (x0 : Nat) (M : Mm), Sim z 50 [(0, .ref x0)] [] M 0 0 (f_X8_keeps_50 x0 M) K := by
  intro x0 M
  unfold f_X8_keeps_50
  refine r_aload_n hz dX8_keeps_50 0 rfl ?_
  refine r_getR (j := 17) cl8 hz dX8_keeps_51 (by decide) wm_5_73 rfl (fun q1 => ?_)
  refine r_iconst (v := 0) hz dX8_keeps_54 rfl ?_
  refine r_aload_n hz dX8_keeps_55 0 rfl ?_
  refine r_getR (j := 24) cl8 hz dX8_keeps_56 (by decide) wm_5_80 rfl (fun q2 => ?_)
  refine r_sipush (v := 1407) hz dX8_keeps_59 rfl ?_
  refine r_aload_n hz dX8_keeps_62 0 rfl ?_
  refine r_getI (j := 23) cl8 hz dX8_keeps_63 (by decide) wm_5_79 rfl ?_
  refine r_imul hz dX8_keeps_66 ?_
  refine r_callSv (As := fun _ => [.ref q1, .int (0 : Int32), .ref q2, .int ((1407 : Int32) * (gI M x0 23))]) hz (fun _ _ h => t_X8_copies _ _ _ _ _ _ _ h) cal_X8_copies dX8_keeps_67 wm_6_51 wm_6_52 rfl rfl (Nat.le_of_ble_eq_true rfl) ⟨(Nat.le_of_ble_eq_true rfl), (Nat.le_of_ble_eq_true rfl)⟩ ⟨(Nat.le_of_ble_eq_true rfl), (Nat.le_of_ble_eq_true rfl)⟩ (fun _ M3 => ?_)
  refine r_aload_n hz dX8_keeps_70 0 rfl ?_
  refine r_dup hz dX8_keeps_71 rfl ?_
  refine r_getI (j := 23) cl8 hz dX8_keeps_72 (by decide) wm_5_79 rfl ?_
  refine r_iconst (v := 1) hz dX8_keeps_75 rfl ?_
  refine r_iadd hz dX8_keeps_76 ?_
  refine r_putI (j := 23) cl8 hz dX8_keeps_77 (by decide) wm_5_79 (Or.inl rfl) rfl rfl rfl ?_
  refine r_nmM (fun M4 => ?_)
  exact r_vret hz hq dX8_keeps_80 (Nat.le_of_ble_eq_true rfl) (Nat.le_of_ble_eq_true rfl)
def f_X8_keeps_11 : Nat → Nat → Int32 → Mm → Option (Unit × Mm)
  | 0, _, _, _ => none
  | n + 1, x0, x1, M =>
    (if (15477 : Int32) ≤ x1 then
      ck (gK M x0 = 8) (ck (gK M x0 = 8) (nm (sI M x0 23 ((gI M x0 23) - (1 : Int32))) fun M1 =>
      f_X8_keeps_50 x0 M1))
    else
      ck (gK M x0 = 8) (bR (gR M x0 24) fun q2 => ck (gK M x0 = 8) (bR (gR M x0 24) fun q3 => ck (gK M q3 = 10 ∧ inb (x1 + (1407 : Int32)) (gN M q3)) (ck (gK M q2 = 10 ∧ inb x1 (gN M q2)) (nm (sI M q2 (x1).toNatClampNeg (gI M q3 ((x1 + (1407 : Int32))).toNatClampNeg)) fun M4 =>
      f_X8_keeps_11 n x0 (x1 + (1 : Int32)) M4)))))
set_option maxRecDepth 20000 in
set_option maxHeartbeats 4000000 in
theorem s_X8_keeps_11 {z : Zt} {K : Unit → Mm → Prop} (hz : Good z RX8 cX8_keeps 2 rX8_keeps none) (hq : Ret z zU K) : ∀ (n : Nat) (x0 : Nat) (x1 : Int32) (M : Mm), Sim z 11 [(0, .ref x0), (1, .int x1)] [] M 0 0 (f_X8_keeps_11 n x0 x1 M) K := by
  intro n
  induction n with
  | zero => exact fun _ _ _ => r_none
  | succ n ih =>
    intro x0 x1 M
    unfold f_X8_keeps_11
    refine r_iload_n hz dX8_keeps_11 1 rfl ?_
    refine r_sipush (v := 15477) hz dX8_keeps_12 rfl ?_
    refine r_icmp_ge (tgt := 40) hz dX8_keeps_15 rfl ?_ ?_
    · refine r_aload_n hz dX8_keeps_40 0 rfl ?_
      refine r_dup hz dX8_keeps_41 rfl ?_
      refine r_getI (j := 23) cl8 hz dX8_keeps_42 (by decide) wm_5_79 rfl ?_
      refine r_iconst (v := 1) hz dX8_keeps_45 rfl ?_
      refine r_isub hz dX8_keeps_46 ?_
      refine r_putI (j := 23) cl8 hz dX8_keeps_47 (by decide) wm_5_79 (Or.inl rfl) rfl rfl rfl ?_
      refine r_nmM (fun M1 => ?_)
      refine r_sub [0] rfl ?_
      exact s_X8_keeps_50 hz hq x0 M1
    · refine r_aload_n hz dX8_keeps_18 0 rfl ?_
      refine r_getR (j := 24) cl8 hz dX8_keeps_19 (by decide) wm_5_80 rfl (fun q2 => ?_)
      refine r_iload_n hz dX8_keeps_22 1 rfl ?_
      refine r_aload_n hz dX8_keeps_23 0 rfl ?_
      refine r_getR (j := 24) cl8 hz dX8_keeps_24 (by decide) wm_5_80 rfl (fun q3 => ?_)
      refine r_iload_n hz dX8_keeps_27 1 rfl ?_
      refine r_sipush (v := 1407) hz dX8_keeps_28 rfl ?_
      refine r_iadd hz dX8_keeps_31 ?_
      refine r_iald hz dX8_keeps_32 ?_
      refine r_iast hz dX8_keeps_33 ?_
      refine r_nmM (fun M4 => ?_)
      refine r_iinc (v := (x1 + (1 : Int32))) (lv' := [(1, .int (x1 + (1 : Int32))), (0, .ref x0)]) hz dX8_keeps_34 1 rfl rfl (by decide) rfl ?_
      refine r_goto (tgt := 11) hz dX8_keeps_37 rfl ?_
      refine r_sub [1, 0] rfl ?_
      exact ih x0 (x1 + (1 : Int32)) M4
def f_X8_keeps (p0 : Nat) (M : Mm) : Option (Unit × Mm) :=
  ck (gK M p0 = 8) ((if ¬ (gI M p0 23) = (12 : Int32) then
    f_X8_keeps_50 p0 M
  else
    f_X8_keeps_11 FU p0 (0 : Int32) M))
set_option maxRecDepth 20000 in
set_option maxHeartbeats 4000000 in
theorem t_X8_keeps (p0 : Nat) (M : Mm) (x : Unit) (M' : Mm) (h : f_X8_keeps p0 M = some (x, M')) : Ctr yX8_keeps cX8_keeps 2 none rX8_keeps (fun _ => [.ref p0]) M (zU x) M' := by
  refine ctr_of (plainFor_of_name (by decide)) (fun _ => Nat.le_of_ble_eq_true rfl) (fun z hz hin hq => ?_)
  have key : Sim z 0 [(0, .ref p0)] [] M 0 0 (f_X8_keeps p0 M) (fun a b => a = x ∧ b = M') := by
    have hq : Ret z zU (fun a b => a = x ∧ b = M') := fun a b e => by rw [e.1, e.2]; exact hq
    unfold f_X8_keeps
    refine r_aload_n hz dX8_keeps_0 0 rfl ?_
    refine r_getI (j := 23) cl8 hz dX8_keeps_1 (by decide) wm_5_79 rfl ?_
    refine r_bipush (v := 12) hz dX8_keeps_4 rfl ?_
    refine r_icmp_ne (tgt := 50) hz dX8_keeps_6 rfl ?_ ?_
    · exact s_X8_keeps_50 hz hq p0 M
    · refine r_iconst (v := 0) hz dX8_keeps_9 rfl ?_
      refine r_istore_n (lv' := [(1, .int (0 : Int32)), (0, .ref p0)]) hz dX8_keeps_10 (by decide) rfl ?_
      refine r_sub [1, 0] rfl ?_
      exact s_X8_keeps_11 hz hq FU p0 (0 : Int32) M
  exact key x M' h ⟨rfl, rfl⟩
theorem dX8_year_0 : decode cX8_year 0 = .ok (.aload_n 0, 1) := by decide +kernel
theorem dX8_year_1 : decode cX8_year 1 = .ok (.iconst 0, 1) := by decide +kernel
theorem dX8_year_2 : decode cX8_year 2 = .ok (.putfield 46, 3) := by decide +kernel
theorem dX8_year_5 : decode cX8_year 5 = .ok (.aload_n 0, 1) := by decide +kernel
theorem dX8_year_6 : decode cX8_year 6 = .ok (.getfield 20, 3) := by decide +kernel
theorem dX8_year_9 : decode cX8_year 9 = .ok (.sipush 1206, 3) := by decide +kernel
theorem dX8_year_12 : decode cX8_year 12 = .ok (.iaload, 1) := by decide +kernel
theorem dX8_year_13 : decode cX8_year 13 = .ok (.bipush 60, 2) := by decide +kernel
theorem dX8_year_15 : decode cX8_year 15 = .ok (.if_icmp .ne 5, 3) := by decide +kernel
theorem dX8_year_18 : decode cX8_year 18 = .ok (.iconst (-1), 1) := by decide +kernel
theorem dX8_year_19 : decode cX8_year 19 = .ok (.ireturn, 1) := by decide +kernel
theorem dX8_year_20 : decode cX8_year 20 = .ok (.aload_n 0, 1) := by decide +kernel
theorem dX8_year_21 : decode cX8_year 21 = .ok (.invokevirtual 302, 3) := by decide +kernel
theorem dX8_year_24 : decode cX8_year 24 = .ok (.aload_n 0, 1) := by decide +kernel
theorem dX8_year_25 : decode cX8_year 25 = .ok (.getfield 20, 3) := by decide +kernel
theorem dX8_year_28 : decode cX8_year 28 = .ok (.sipush 1206, 3) := by decide +kernel
theorem dX8_year_31 : decode cX8_year 31 = .ok (.dup2, 1) := by decide +kernel
theorem dX8_year_32 : decode cX8_year 32 = .ok (.iaload, 1) := by decide +kernel
theorem dX8_year_33 : decode cX8_year 33 = .ok (.iconst 1, 1) := by decide +kernel
theorem dX8_year_34 : decode cX8_year 34 = .ok (.iadd, 1) := by decide +kernel
theorem dX8_year_35 : decode cX8_year 35 = .ok (.iastore, 1) := by decide +kernel
theorem dX8_year_36 : decode cX8_year 36 = .ok (.iconst 0, 1) := by decide +kernel
theorem dX8_year_37 : decode cX8_year 37 = .ok (.istore_n 1, 1) := by decide +kernel
theorem dX8_year_38 : decode cX8_year 38 = .ok (.iconst 0, 1) := by decide +kernel
theorem dX8_year_39 : decode cX8_year 39 = .ok (.istore_n 2, 1) := by decide +kernel
theorem dX8_year_40 : decode cX8_year 40 = .ok (.iload_n 2, 1) := by decide +kernel
theorem dX8_year_41 : decode cX8_year 41 = .ok (.aload_n 0, 1) := by decide +kernel
theorem dX8_year_42 : decode cX8_year 42 = .ok (.getfield 13, 3) := by decide +kernel
theorem dX8_year_45 : decode cX8_year 45 = .ok (.iconst 0, 1) := by decide +kernel
theorem dX8_year_46 : decode cX8_year 46 = .ok (.iaload, 1) := by decide +kernel
theorem dX8_year_47 : decode cX8_year 47 = .ok (.if_icmp .ge 38, 3) := by decide +kernel
theorem dX8_year_50 : decode cX8_year 50 = .ok (.iload_n 1, 1) := by decide +kernel
theorem dX8_year_51 : decode cX8_year 51 = .ok (.aload_n 0, 1) := by decide +kernel
theorem dX8_year_52 : decode cX8_year 52 = .ok (.getfield 20, 3) := by decide +kernel
theorem dX8_year_55 : decode cX8_year 55 = .ok (.sipush 1206, 3) := by decide +kernel
theorem dX8_year_58 : decode cX8_year 58 = .ok (.iaload, 1) := by decide +kernel
theorem dX8_year_59 : decode cX8_year 59 = .ok (.aload_n 0, 1) := by decide +kernel
theorem dX8_year_60 : decode cX8_year 60 = .ok (.iload_n 2, 1) := by decide +kernel
theorem dX8_year_61 : decode cX8_year 61 = .ok (.iconst 3, 1) := by decide +kernel
theorem dX8_year_62 : decode cX8_year 62 = .ok (.invokevirtual 225, 3) := by decide +kernel
theorem dX8_year_65 : decode cX8_year 65 = .ok (.if_icmp .gt 11, 3) := by decide +kernel
theorem dX8_year_68 : decode cX8_year 68 = .ok (.aload_n 0, 1) := by decide +kernel
theorem dX8_year_69 : decode cX8_year 69 = .ok (.iload_n 2, 1) := by decide +kernel
theorem dX8_year_70 : decode cX8_year 70 = .ok (.invokevirtual 305, 3) := by decide +kernel
theorem dX8_year_73 : decode cX8_year 73 = .ok (.goto 4, 3) := by decide +kernel
theorem dX8_year_76 : decode cX8_year 76 = .ok (.iconst 0, 1) := by decide +kernel
theorem dX8_year_77 : decode cX8_year 77 = .ok (.iadd, 1) := by decide +kernel
theorem dX8_year_78 : decode cX8_year 78 = .ok (.istore_n 1, 1) := by decide +kernel
theorem dX8_year_79 : decode cX8_year 79 = .ok (.iinc 2 1, 3) := by decide +kernel
theorem dX8_year_82 : decode cX8_year 82 = .ok (.goto (-42), 3) := by decide +kernel
theorem dX8_year_85 : decode cX8_year 85 = .ok (.iconst 0, 1) := by decide +kernel
theorem dX8_year_86 : decode cX8_year 86 = .ok (.istore_n 2, 1) := by decide +kernel
theorem dX8_year_87 : decode cX8_year 87 = .ok (.iload_n 2, 1) := by decide +kernel
theorem dX8_year_88 : decode cX8_year 88 = .ok (.aload_n 0, 1) := by decide +kernel
theorem dX8_year_89 : decode cX8_year 89 = .ok (.getfield 13, 3) := by decide +kernel
theorem dX8_year_92 : decode cX8_year 92 = .ok (.iconst 0, 1) := by decide +kernel
theorem dX8_year_93 : decode cX8_year 93 = .ok (.iaload, 1) := by decide +kernel
theorem dX8_year_94 : decode cX8_year 94 = .ok (.if_icmp .ge 14, 3) := by decide +kernel
theorem dX8_year_97 : decode cX8_year 97 = .ok (.aload_n 0, 1) := by decide +kernel
theorem dX8_year_98 : decode cX8_year 98 = .ok (.iload_n 2, 1) := by decide +kernel
theorem dX8_year_99 : decode cX8_year 99 = .ok (.invokevirtual 308, 3) := by decide +kernel
theorem dX8_year_102 : decode cX8_year 102 = .ok (.iinc 2 1, 3) := by decide +kernel
theorem dX8_year_105 : decode cX8_year 105 = .ok (.goto (-18), 3) := by decide +kernel
theorem dX8_year_108 : decode cX8_year 108 = .ok (.iload_n 1, 1) := by decide +kernel
theorem dX8_year_109 : decode cX8_year 109 = .ok (.ireturn, 1) := by decide +kernel
abbrev rX8_year : Room := { frames := 3, cells := 0, slots := 0, locals := 76 }
theorem cal_X8_year : CalOk yX8_year cX8_year 3 (some .int) 0 := ⟨wm_6_124, wm_1_9, by decide, by decide, by decide +kernel⟩
def f_X8_year_87 : Nat → Nat → Int32 → Int32 → Mm → Option (Int32 × Mm)
  | 0, _, _, _, _ => none
  | n + 1, x0, x1, x2, M =>
    ck (gK M x0 = 8) (bR (gR M x0 11) fun q1 => ck (gK M q1 = 10 ∧ inb (0 : Int32) (gN M q1)) ((if (gI M q1 ((0 : Int32)).toNatClampNeg) ≤ x2 then
      some (x1, M)
    else
      ck (gK M x0 = 8) (bd (f_X8_lapses x0 x2 M) fun _ M2 =>
      f_X8_year_87 n x0 x1 (x2 + (1 : Int32)) M2))))
set_option maxRecDepth 20000 in
set_option maxHeartbeats 4000000 in
theorem s_X8_year_87 {z : Zt} {K : Int32 → Mm → Prop} (hz : Good z RX8 cX8_year 3 rX8_year (some .int)) (hq : Ret z zI K) : ∀ (n : Nat) (x0 : Nat) (x1 : Int32) (x2 : Int32) (M : Mm), Sim z 87 [(0, .ref x0), (1, .int x1), (2, .int x2)] [] M 0 0 (f_X8_year_87 n x0 x1 x2 M) K := by
  intro n
  induction n with
  | zero => exact fun _ _ _ _ => r_none
  | succ n ih =>
    intro x0 x1 x2 M
    unfold f_X8_year_87
    refine r_iload_n hz dX8_year_87 2 rfl ?_
    refine r_aload_n hz dX8_year_88 0 rfl ?_
    refine r_getR (j := 11) cl8 hz dX8_year_89 (by decide) wm_5_67 rfl (fun q1 => ?_)
    refine r_iconst (v := 0) hz dX8_year_92 rfl ?_
    refine r_iald hz dX8_year_93 ?_
    refine r_icmp_ge (tgt := 108) hz dX8_year_94 rfl ?_ ?_
    · refine r_iload_n hz dX8_year_108 1 rfl ?_
      exact r_iret hz hq dX8_year_109 (Nat.le_of_ble_eq_true rfl) (Nat.le_of_ble_eq_true rfl)
    · refine r_aload_n hz dX8_year_97 0 rfl ?_
      refine r_iload_n hz dX8_year_98 2 rfl ?_
      refine r_callVv (As := fun _ => [.int x2]) cl8 hz (fun _ _ h => t_X8_lapses _ _ _ _ _ h) cal_X8_lapses dX8_year_99 wm_6_156 wm_6_158 wm_p_78 rfl rfl (Nat.le_of_ble_eq_true rfl) ⟨(Nat.le_of_ble_eq_true rfl), (Nat.le_of_ble_eq_true rfl)⟩ ⟨(Nat.le_of_ble_eq_true rfl), (Nat.le_of_ble_eq_true rfl)⟩ (fun _ M2 => ?_)
      refine r_iinc (v := (x2 + (1 : Int32))) (lv' := [(2, .int (x2 + (1 : Int32))), (0, .ref x0), (1, .int x1)]) hz dX8_year_102 2 rfl rfl (by decide) rfl ?_
      refine r_goto (tgt := 87) hz dX8_year_105 rfl ?_
      refine r_sub [1, 2, 0] rfl ?_
      exact ih x0 x1 (x2 + (1 : Int32)) M2
def f_X8_year_40 : Nat → Nat → Int32 → Int32 → Mm → Option (Int32 × Mm)
  | 0, _, _, _, _ => none
  | n + 1, x0, x1, x2, M =>
    ck (gK M x0 = 8) (bR (gR M x0 11) fun q1 => ck (gK M q1 = 10 ∧ inb (0 : Int32) (gN M q1)) ((if (gI M q1 ((0 : Int32)).toNatClampNeg) ≤ x2 then
      f_X8_year_87 FU x0 x1 (0 : Int32) M
    else
      ck (gK M x0 = 8) (bR (gR M x0 17) fun q2 => ck (gK M q2 = 10 ∧ inb (1206 : Int32) (gN M q2)) (ck (gK M x0 = 8) (bd (f_X8_loanOf x0 x2 (3 : Int32) M) fun v4 M3 =>
      (if v4 < (gI M q2 ((1206 : Int32)).toNatClampNeg) then
        nm (x1 + (0 : Int32)) fun v5 =>
        f_X8_year_40 n x0 v5 (x2 + (1 : Int32)) M3
      else
        ck (gK M3 x0 = 8) (bd (f_X8_loanYear x0 x2 M3) fun v8 M7 =>
        nm (x1 + v8) fun v9 =>
        f_X8_year_40 n x0 v9 (x2 + (1 : Int32)) M7))))))))
set_option maxRecDepth 20000 in
set_option maxHeartbeats 4000000 in
theorem s_X8_year_40 {z : Zt} {K : Int32 → Mm → Prop} (hz : Good z RX8 cX8_year 3 rX8_year (some .int)) (hq : Ret z zI K) : ∀ (n : Nat) (x0 : Nat) (x1 : Int32) (x2 : Int32) (M : Mm), Sim z 40 [(0, .ref x0), (1, .int x1), (2, .int x2)] [] M 0 0 (f_X8_year_40 n x0 x1 x2 M) K := by
  intro n
  induction n with
  | zero => exact fun _ _ _ _ => r_none
  | succ n ih =>
    intro x0 x1 x2 M
    unfold f_X8_year_40
    refine r_iload_n hz dX8_year_40 2 rfl ?_
    refine r_aload_n hz dX8_year_41 0 rfl ?_
    refine r_getR (j := 11) cl8 hz dX8_year_42 (by decide) wm_5_67 rfl (fun q1 => ?_)
    refine r_iconst (v := 0) hz dX8_year_45 rfl ?_
    refine r_iald hz dX8_year_46 ?_
    refine r_icmp_ge (tgt := 85) hz dX8_year_47 rfl ?_ ?_
    · refine r_iconst (v := 0) hz dX8_year_85 rfl ?_
      refine r_istore_n (lv' := [(2, .int (0 : Int32)), (0, .ref x0), (1, .int x1)]) hz dX8_year_86 (by decide) rfl ?_
      refine r_sub [1, 2, 0] rfl ?_
      exact s_X8_year_87 hz hq FU x0 x1 (0 : Int32) M
    · refine r_iload_n hz dX8_year_50 1 rfl ?_
      refine r_aload_n hz dX8_year_51 0 rfl ?_
      refine r_getR (j := 17) cl8 hz dX8_year_52 (by decide) wm_5_73 rfl (fun q2 => ?_)
      refine r_sipush (v := 1206) hz dX8_year_55 rfl ?_
      refine r_iald hz dX8_year_58 ?_
      refine r_aload_n hz dX8_year_59 0 rfl ?_
      refine r_iload_n hz dX8_year_60 2 rfl ?_
      refine r_iconst (v := 3) hz dX8_year_61 rfl ?_
      refine r_callVi (As := fun _ => [.int x2, .int (3 : Int32)]) cl8 hz (fun _ _ h => t_X8_loanOf _ _ _ _ _ _ h) cal_X8_loanOf dX8_year_62 wm_6_68 wm_6_70 wm_p_66 rfl rfl (Nat.le_of_ble_eq_true rfl) ⟨(Nat.le_of_ble_eq_true rfl), (Nat.le_of_ble_eq_true rfl)⟩ ⟨(Nat.le_of_ble_eq_true rfl), (Nat.le_of_ble_eq_true rfl)⟩ (fun v4 M3 => ?_)
      refine r_icmp_gt (tgt := 76) hz dX8_year_65 rfl ?_ ?_
      · refine r_iconst (v := 0) hz dX8_year_76 rfl ?_
        refine r_iadd hz dX8_year_77 ?_
        refine r_nmi (fun v5 => ?_)
        refine r_istore_n (lv' := [(1, .int v5), (0, .ref x0), (2, .int x2)]) hz dX8_year_78 (by decide) rfl ?_
        refine r_iinc (v := (x2 + (1 : Int32))) (lv' := [(2, .int (x2 + (1 : Int32))), (1, .int v5), (0, .ref x0)]) hz dX8_year_79 2 rfl rfl (by decide) rfl ?_
        refine r_goto (tgt := 40) hz dX8_year_82 rfl ?_
        refine r_sub [2, 1, 0] rfl ?_
        exact ih x0 v5 (x2 + (1 : Int32)) M3
      · refine r_aload_n hz dX8_year_68 0 rfl ?_
        refine r_iload_n hz dX8_year_69 2 rfl ?_
        refine r_callVi (As := fun _ => [.int x2]) cl8 hz (fun _ _ h => t_X8_loanYear _ _ _ _ _ h) cal_X8_loanYear dX8_year_70 wm_6_129 wm_6_131 wm_p_73 rfl rfl (Nat.le_of_ble_eq_true rfl) ⟨(Nat.le_of_ble_eq_true rfl), (Nat.le_of_ble_eq_true rfl)⟩ ⟨(Nat.le_of_ble_eq_true rfl), (Nat.le_of_ble_eq_true rfl)⟩ (fun v8 M7 => ?_)
        refine r_goto (tgt := 77) hz dX8_year_73 rfl ?_
        refine r_iadd hz dX8_year_77 ?_
        refine r_nmi (fun v9 => ?_)
        refine r_istore_n (lv' := [(1, .int v9), (0, .ref x0), (2, .int x2)]) hz dX8_year_78 (by decide) rfl ?_
        refine r_iinc (v := (x2 + (1 : Int32))) (lv' := [(2, .int (x2 + (1 : Int32))), (1, .int v9), (0, .ref x0)]) hz dX8_year_79 2 rfl rfl (by decide) rfl ?_
        refine r_goto (tgt := 40) hz dX8_year_82 rfl ?_
        refine r_sub [2, 1, 0] rfl ?_
        exact ih x0 v9 (x2 + (1 : Int32)) M7
def f_X8_year (p0 : Nat) (M : Mm) : Option (Int32 × Mm) :=
  ck (gK M p0 = 8) (nm (sI M p0 0 (0 : Int32)) fun M1 =>
  ck (gK M1 p0 = 8) (bR (gR M1 p0 17) fun q2 => ck (gK M1 q2 = 10 ∧ inb (1206 : Int32) (gN M1 q2)) ((if ¬ (gI M1 q2 ((1206 : Int32)).toNatClampNeg) = (60 : Int32) then
    ck (gK M1 p0 = 8) (bd (f_X8_keeps p0 M1) fun _ M3 =>
    ck (gK M3 p0 = 8) (bR (gR M3 p0 17) fun q4 => ck (gK M3 q4 = 10 ∧ inb (1206 : Int32) (gN M3 q4)) (ck (gK M3 q4 = 10 ∧ inb (1206 : Int32) (gN M3 q4)) (nm (sI M3 q4 ((1206 : Int32)).toNatClampNeg ((gI M3 q4 ((1206 : Int32)).toNatClampNeg) + (1 : Int32))) fun M5 =>
    f_X8_year_40 FU p0 (0 : Int32) (0 : Int32) M5))))
  else
    some ((-1 : Int32), M1)))))
set_option maxRecDepth 20000 in
set_option maxHeartbeats 4000000 in
theorem t_X8_year (p0 : Nat) (M : Mm) (x : Int32) (M' : Mm) (h : f_X8_year p0 M = some (x, M')) : Ctr yX8_year cX8_year 3 (some .int) rX8_year (fun _ => [.ref p0]) M (zI x) M' := by
  refine ctr_of (plainFor_of_name (by decide)) (fun _ => Nat.le_of_ble_eq_true rfl) (fun z hz hin hq => ?_)
  have key : Sim z 0 [(0, .ref p0)] [] M 0 0 (f_X8_year p0 M) (fun a b => a = x ∧ b = M') := by
    have hq : Ret z zI (fun a b => a = x ∧ b = M') := fun a b e => by rw [e.1, e.2]; exact hq
    unfold f_X8_year
    refine r_aload_n hz dX8_year_0 0 rfl ?_
    refine r_iconst (v := 0) hz dX8_year_1 rfl ?_
    refine r_putI (j := 0) cl8 hz dX8_year_2 (by decide) wm_5_56 (Or.inl rfl) rfl rfl rfl ?_
    refine r_nmM (fun M1 => ?_)
    refine r_aload_n hz dX8_year_5 0 rfl ?_
    refine r_getR (j := 17) cl8 hz dX8_year_6 (by decide) wm_5_73 rfl (fun q2 => ?_)
    refine r_sipush (v := 1206) hz dX8_year_9 rfl ?_
    refine r_iald hz dX8_year_12 ?_
    refine r_bipush (v := 60) hz dX8_year_13 rfl ?_
    refine r_icmp_ne (tgt := 20) hz dX8_year_15 rfl ?_ ?_
    · refine r_aload_n hz dX8_year_20 0 rfl ?_
      refine r_callVv (As := fun _ => []) cl8 hz (fun _ _ h => t_X8_keeps _ _ _ _ h) cal_X8_keeps dX8_year_21 wm_6_125 wm_6_127 wm_p_72 rfl rfl (Nat.le_of_ble_eq_true rfl) ⟨(Nat.le_of_ble_eq_true rfl), (Nat.le_of_ble_eq_true rfl)⟩ ⟨(Nat.le_of_ble_eq_true rfl), (Nat.le_of_ble_eq_true rfl)⟩ (fun _ M3 => ?_)
      refine r_aload_n hz dX8_year_24 0 rfl ?_
      refine r_getR (j := 17) cl8 hz dX8_year_25 (by decide) wm_5_73 rfl (fun q4 => ?_)
      refine r_sipush (v := 1206) hz dX8_year_28 rfl ?_
      refine r_dup2 hz dX8_year_31 rfl rfl ?_
      refine r_iald hz dX8_year_32 ?_
      refine r_iconst (v := 1) hz dX8_year_33 rfl ?_
      refine r_iadd hz dX8_year_34 ?_
      refine r_iast hz dX8_year_35 ?_
      refine r_nmM (fun M5 => ?_)
      refine r_iconst (v := 0) hz dX8_year_36 rfl ?_
      refine r_istore_n (lv' := [(1, .int (0 : Int32)), (0, .ref p0)]) hz dX8_year_37 (by decide) rfl ?_
      refine r_iconst (v := 0) hz dX8_year_38 rfl ?_
      refine r_istore_n (lv' := [(2, .int (0 : Int32)), (1, .int (0 : Int32)), (0, .ref p0)]) hz dX8_year_39 (by decide) rfl ?_
      refine r_sub [2, 1, 0] rfl ?_
      exact s_X8_year_40 hz hq FU p0 (0 : Int32) (0 : Int32) M5
    · refine r_iconst (v := -1) hz dX8_year_18 rfl ?_
      exact r_iret hz hq dX8_year_19 (Nat.le_of_ble_eq_true rfl) (Nat.le_of_ble_eq_true rfl)
  exact key x M' h ⟨rfl, rfl⟩
theorem dX8_claim_0 : decode cX8_claim 0 = .ok (.aload_n 0, 1) := by decide +kernel
theorem dX8_claim_1 : decode cX8_claim 1 = .ok (.iconst 0, 1) := by decide +kernel
theorem dX8_claim_2 : decode cX8_claim 2 = .ok (.putfield 46, 3) := by decide +kernel
theorem dX8_claim_5 : decode cX8_claim 5 = .ok (.aload_n 0, 1) := by decide +kernel
theorem dX8_claim_6 : decode cX8_claim 6 = .ok (.iload_n 1, 1) := by decide +kernel
theorem dX8_claim_7 : decode cX8_claim 7 = .ok (.invokevirtual 244, 3) := by decide +kernel
theorem dX8_claim_10 : decode cX8_claim 10 = .ok (.ifCond .eq 11, 3) := by decide +kernel
theorem dX8_claim_13 : decode cX8_claim 13 = .ok (.aload_n 0, 1) := by decide +kernel
theorem dX8_claim_14 : decode cX8_claim 14 = .ok (.iload_n 2, 1) := by decide +kernel
theorem dX8_claim_15 : decode cX8_claim 15 = .ok (.invokevirtual 222, 3) := by decide +kernel
theorem dX8_claim_18 : decode cX8_claim 18 = .ok (.ifCond .ne 5, 3) := by decide +kernel
theorem dX8_claim_21 : decode cX8_claim 21 = .ok (.iconst (-1), 1) := by decide +kernel
theorem dX8_claim_22 : decode cX8_claim 22 = .ok (.ireturn, 1) := by decide +kernel
theorem dX8_claim_23 : decode cX8_claim 23 = .ok (.aload_n 0, 1) := by decide +kernel
theorem dX8_claim_24 : decode cX8_claim 24 = .ok (.iload_n 1, 1) := by decide +kernel
theorem dX8_claim_25 : decode cX8_claim 25 = .ok (.iload_n 2, 1) := by decide +kernel
theorem dX8_claim_26 : decode cX8_claim 26 = .ok (.iconst 1, 1) := by decide +kernel
theorem dX8_claim_27 : decode cX8_claim 27 = .ok (.invokevirtual 311, 3) := by decide +kernel
theorem dX8_claim_30 : decode cX8_claim 30 = .ok (.ifCond .ne 5, 3) := by decide +kernel
theorem dX8_claim_33 : decode cX8_claim 33 = .ok (.iconst 0, 1) := by decide +kernel
theorem dX8_claim_34 : decode cX8_claim 34 = .ok (.ireturn, 1) := by decide +kernel
theorem dX8_claim_35 : decode cX8_claim 35 = .ok (.aload_n 0, 1) := by decide +kernel
theorem dX8_claim_36 : decode cX8_claim 36 = .ok (.invokevirtual 302, 3) := by decide +kernel
theorem dX8_claim_39 : decode cX8_claim 39 = .ok (.iconst 0, 1) := by decide +kernel
theorem dX8_claim_40 : decode cX8_claim 40 = .ok (.istore_n 3, 1) := by decide +kernel
theorem dX8_claim_41 : decode cX8_claim 41 = .ok (.iconst 1, 1) := by decide +kernel
theorem dX8_claim_42 : decode cX8_claim 42 = .ok (.istore 4, 2) := by decide +kernel
theorem dX8_claim_44 : decode cX8_claim 44 = .ok (.iload 4, 2) := by decide +kernel
theorem dX8_claim_46 : decode cX8_claim 46 = .ok (.aload_n 0, 1) := by decide +kernel
theorem dX8_claim_47 : decode cX8_claim 47 = .ok (.iload_n 2, 1) := by decide +kernel
theorem dX8_claim_48 : decode cX8_claim 48 = .ok (.iconst 0, 1) := by decide +kernel
theorem dX8_claim_49 : decode cX8_claim 49 = .ok (.invokevirtual 225, 3) := by decide +kernel
theorem dX8_claim_52 : decode cX8_claim 52 = .ok (.if_icmp .gt 88, 3) := by decide +kernel
theorem dX8_claim_55 : decode cX8_claim 55 = .ok (.iload_n 2, 1) := by decide +kernel
theorem dX8_claim_56 : decode cX8_claim 56 = .ok (.iload 4, 2) := by decide +kernel
theorem dX8_claim_58 : decode cX8_claim 58 = .ok (.invokestatic 229, 3) := by decide +kernel
theorem dX8_claim_61 : decode cX8_claim 61 = .ok (.istore 5, 2) := by decide +kernel
theorem dX8_claim_63 : decode cX8_claim 63 = .ok (.aload_n 0, 1) := by decide +kernel
theorem dX8_claim_64 : decode cX8_claim 64 = .ok (.getfield 20, 3) := by decide +kernel
theorem dX8_claim_67 : decode cX8_claim 67 = .ok (.iconst 0, 1) := by decide +kernel
theorem dX8_claim_68 : decode cX8_claim 68 = .ok (.iload 5, 2) := by decide +kernel
theorem dX8_claim_70 : decode cX8_claim 70 = .ok (.iadd, 1) := by decide +kernel
theorem dX8_claim_71 : decode cX8_claim 71 = .ok (.iaload, 1) := by decide +kernel
theorem dX8_claim_72 : decode cX8_claim 72 = .ok (.iconst 1, 1) := by decide +kernel
theorem dX8_claim_73 : decode cX8_claim 73 = .ok (.if_icmp .ne 61, 3) := by decide +kernel
theorem dX8_claim_76 : decode cX8_claim 76 = .ok (.aload_n 0, 1) := by decide +kernel
theorem dX8_claim_77 : decode cX8_claim 77 = .ok (.getfield 20, 3) := by decide +kernel
theorem dX8_claim_80 : decode cX8_claim 80 = .ok (.sipush 240, 3) := by decide +kernel
theorem dX8_claim_83 : decode cX8_claim 83 = .ok (.iload 5, 2) := by decide +kernel
theorem dX8_claim_85 : decode cX8_claim 85 = .ok (.iadd, 1) := by decide +kernel
theorem dX8_claim_86 : decode cX8_claim 86 = .ok (.iaload, 1) := by decide +kernel
theorem dX8_claim_87 : decode cX8_claim 87 = .ok (.iload_n 1, 1) := by decide +kernel
theorem dX8_claim_88 : decode cX8_claim 88 = .ok (.iconst 1, 1) := by decide +kernel
theorem dX8_claim_89 : decode cX8_claim 89 = .ok (.iadd, 1) := by decide +kernel
theorem dX8_claim_90 : decode cX8_claim 90 = .ok (.if_icmp .ne 44, 3) := by decide +kernel
theorem dX8_claim_93 : decode cX8_claim 93 = .ok (.aload_n 0, 1) := by decide +kernel
theorem dX8_claim_94 : decode cX8_claim 94 = .ok (.getfield 20, 3) := by decide +kernel
theorem dX8_claim_97 : decode cX8_claim 97 = .ok (.iconst 0, 1) := by decide +kernel
theorem dX8_claim_98 : decode cX8_claim 98 = .ok (.iload 5, 2) := by decide +kernel
theorem dX8_claim_100 : decode cX8_claim 100 = .ok (.iadd, 1) := by decide +kernel
theorem dX8_claim_101 : decode cX8_claim 101 = .ok (.iconst 2, 1) := by decide +kernel
theorem dX8_claim_102 : decode cX8_claim 102 = .ok (.iastore, 1) := by decide +kernel
theorem dX8_claim_103 : decode cX8_claim 103 = .ok (.aload_n 0, 1) := by decide +kernel
theorem dX8_claim_104 : decode cX8_claim 104 = .ok (.getfield 20, 3) := by decide +kernel
theorem dX8_claim_107 : decode cX8_claim 107 = .ok (.sipush 960, 3) := by decide +kernel
theorem dX8_claim_110 : decode cX8_claim 110 = .ok (.iload 5, 2) := by decide +kernel
theorem dX8_claim_112 : decode cX8_claim 112 = .ok (.iadd, 1) := by decide +kernel
theorem dX8_claim_113 : decode cX8_claim 113 = .ok (.dup2, 1) := by decide +kernel
theorem dX8_claim_114 : decode cX8_claim 114 = .ok (.iaload, 1) := by decide +kernel
theorem dX8_claim_115 : decode cX8_claim 115 = .ok (.aload_n 0, 1) := by decide +kernel
theorem dX8_claim_116 : decode cX8_claim 116 = .ok (.iload_n 2, 1) := by decide +kernel
theorem dX8_claim_117 : decode cX8_claim 117 = .ok (.iload 4, 2) := by decide +kernel
theorem dX8_claim_119 : decode cX8_claim 119 = .ok (.invokevirtual 299, 3) := by decide +kernel
theorem dX8_claim_122 : decode cX8_claim 122 = .ok (.iadd, 1) := by decide +kernel
theorem dX8_claim_123 : decode cX8_claim 123 = .ok (.iastore, 1) := by decide +kernel
theorem dX8_claim_124 : decode cX8_claim 124 = .ok (.iload_n 3, 1) := by decide +kernel
theorem dX8_claim_125 : decode cX8_claim 125 = .ok (.aload_n 0, 1) := by decide +kernel
theorem dX8_claim_126 : decode cX8_claim 126 = .ok (.iload_n 2, 1) := by decide +kernel
theorem dX8_claim_127 : decode cX8_claim 127 = .ok (.iload 4, 2) := by decide +kernel
theorem dX8_claim_129 : decode cX8_claim 129 = .ok (.invokevirtual 299, 3) := by decide +kernel
theorem dX8_claim_132 : decode cX8_claim 132 = .ok (.iadd, 1) := by decide +kernel
theorem dX8_claim_133 : decode cX8_claim 133 = .ok (.istore_n 3, 1) := by decide +kernel
theorem dX8_claim_134 : decode cX8_claim 134 = .ok (.iinc 4 1, 3) := by decide +kernel
theorem dX8_claim_137 : decode cX8_claim 137 = .ok (.goto (-93), 3) := by decide +kernel
theorem dX8_claim_140 : decode cX8_claim 140 = .ok (.aload_n 0, 1) := by decide +kernel
theorem dX8_claim_141 : decode cX8_claim 141 = .ok (.iload_n 1, 1) := by decide +kernel
theorem dX8_claim_142 : decode cX8_claim 142 = .ok (.iload_n 3, 1) := by decide +kernel
theorem dX8_claim_143 : decode cX8_claim 143 = .ok (.invokevirtual 281, 3) := by decide +kernel
theorem dX8_claim_146 : decode cX8_claim 146 = .ok (.aload_n 0, 1) := by decide +kernel
theorem dX8_claim_147 : decode cX8_claim 147 = .ok (.getfield 20, 3) := by decide +kernel
theorem dX8_claim_150 : decode cX8_claim 150 = .ok (.sipush 1383, 3) := by decide +kernel
theorem dX8_claim_153 : decode cX8_claim 153 = .ok (.bipush 6, 2) := by decide +kernel
theorem dX8_claim_155 : decode cX8_claim 155 = .ok (.iload_n 2, 1) := by decide +kernel
theorem dX8_claim_156 : decode cX8_claim 156 = .ok (.imul, 1) := by decide +kernel
theorem dX8_claim_157 : decode cX8_claim 157 = .ok (.iadd, 1) := by decide +kernel
theorem dX8_claim_158 : decode cX8_claim 158 = .ok (.iconst 1, 1) := by decide +kernel
theorem dX8_claim_159 : decode cX8_claim 159 = .ok (.iadd, 1) := by decide +kernel
theorem dX8_claim_160 : decode cX8_claim 160 = .ok (.dup2, 1) := by decide +kernel
theorem dX8_claim_161 : decode cX8_claim 161 = .ok (.iaload, 1) := by decide +kernel
theorem dX8_claim_162 : decode cX8_claim 162 = .ok (.iload_n 3, 1) := by decide +kernel
theorem dX8_claim_163 : decode cX8_claim 163 = .ok (.iadd, 1) := by decide +kernel
theorem dX8_claim_164 : decode cX8_claim 164 = .ok (.iastore, 1) := by decide +kernel
theorem dX8_claim_165 : decode cX8_claim 165 = .ok (.iload_n 3, 1) := by decide +kernel
theorem dX8_claim_166 : decode cX8_claim 166 = .ok (.ireturn, 1) := by decide +kernel
abbrev rX8_claim : Room := { frames := 3, cells := 0, slots := 0, locals := 72 }
theorem cal_X8_claim : CalOk yX8_claim cX8_claim 6 (some .int) 2 := ⟨wm_6_171, wm_1_9, by decide, by decide, by decide +kernel⟩
def f_X8_claim_44 : Nat → Nat → Int32 → Int32 → Int32 → Int32 → Mm → Option (Int32 × Mm)
  | 0, _, _, _, _, _, _ => none
  | n + 1, x0, x1, x2, x3, x4, M =>
    ck (gK M x0 = 8) (bd (f_X8_loanOf x0 x2 (0 : Int32) M) fun v2 M1 =>
    (if v2 < x4 then
      ck (gK M1 x0 = 8) (bd (f_X8_pays x0 x1 x3 M1) fun _ M3 =>
      ck (gK M3 x0 = 8) (bR (gR M3 x0 17) fun q4 => ck (gK M3 q4 = 10 ∧ inb (((1383 : Int32) + ((6 : Int32) * x2)) + (1 : Int32)) (gN M3 q4)) (ck (gK M3 q4 = 10 ∧ inb (((1383 : Int32) + ((6 : Int32) * x2)) + (1 : Int32)) (gN M3 q4)) (nm (sI M3 q4 ((((1383 : Int32) + ((6 : Int32) * x2)) + (1 : Int32))).toNatClampNeg ((gI M3 q4 ((((1383 : Int32) + ((6 : Int32) * x2)) + (1 : Int32))).toNatClampNeg) + x3)) fun M5 =>
      some (x3, M5)))))
    else
      bd (f_X8_bondAt x2 x4 M1) fun v7 M6 =>
      ck (gK M6 x0 = 8) (bR (gR M6 x0 17) fun q8 => ck (gK M6 q8 = 10 ∧ inb ((0 : Int32) + v7) (gN M6 q8)) ((if ¬ (gI M6 q8 (((0 : Int32) + v7)).toNatClampNeg) = (1 : Int32) then
        f_X8_claim_44 n x0 x1 x2 x3 (x4 + (1 : Int32)) M6
      else
        ck (gK M6 x0 = 8) (bR (gR M6 x0 17) fun q10 => ck (gK M6 q10 = 10 ∧ inb ((240 : Int32) + v7) (gN M6 q10)) ((if ¬ (gI M6 q10 (((240 : Int32) + v7)).toNatClampNeg) = (x1 + (1 : Int32)) then
          f_X8_claim_44 n x0 x1 x2 x3 (x4 + (1 : Int32)) M6
        else
          ck (gK M6 x0 = 8) (bR (gR M6 x0 17) fun q12 => ck (gK M6 q12 = 10 ∧ inb ((0 : Int32) + v7) (gN M6 q12)) (nm (sI M6 q12 (((0 : Int32) + v7)).toNatClampNeg (2 : Int32)) fun M13 =>
          ck (gK M13 x0 = 8) (bR (gR M13 x0 17) fun q14 => ck (gK M13 q14 = 10 ∧ inb ((960 : Int32) + v7) (gN M13 q14)) (ck (gK M13 x0 = 8) (bd (f_X8_owedFor x0 x2 x4 M13) fun v16 M15 =>
          ck (gK M15 q14 = 10 ∧ inb ((960 : Int32) + v7) (gN M15 q14)) (nm (sI M15 q14 (((960 : Int32) + v7)).toNatClampNeg ((gI M13 q14 (((960 : Int32) + v7)).toNatClampNeg) + v16)) fun M17 =>
          ck (gK M17 x0 = 8) (bd (f_X8_owedFor x0 x2 x4 M17) fun v19 M18 =>
          nm (x3 + v19) fun v20 =>
          f_X8_claim_44 n x0 x1 x2 v20 (x4 + (1 : Int32)) M18)))))))))))))))
set_option maxRecDepth 20000 in
set_option maxHeartbeats 4000000 in
theorem s_X8_claim_44 {z : Zt} {K : Int32 → Mm → Prop} (hz : Good z RX8 cX8_claim 6 rX8_claim (some .int)) (hq : Ret z zI K) : ∀ (n : Nat) (x0 : Nat) (x1 : Int32) (x2 : Int32) (x3 : Int32) (x4 : Int32) (M : Mm), Sim z 44 [(0, .ref x0), (1, .int x1), (2, .int x2), (3, .int x3), (4, .int x4)] [] M 0 0 (f_X8_claim_44 n x0 x1 x2 x3 x4 M) K := by
  intro n
  induction n with
  | zero => exact fun _ _ _ _ _ _ => r_none
  | succ n ih =>
    intro x0 x1 x2 x3 x4 M
    unfold f_X8_claim_44
    refine r_iload hz dX8_claim_44 4 rfl ?_
    refine r_aload_n hz dX8_claim_46 0 rfl ?_
    refine r_iload_n hz dX8_claim_47 2 rfl ?_
    refine r_iconst (v := 0) hz dX8_claim_48 rfl ?_
    refine r_callVi (As := fun _ => [.int x2, .int (0 : Int32)]) cl8 hz (fun _ _ h => t_X8_loanOf _ _ _ _ _ _ h) cal_X8_loanOf dX8_claim_49 wm_6_68 wm_6_70 wm_p_66 rfl rfl (Nat.le_of_ble_eq_true rfl) ⟨(Nat.le_of_ble_eq_true rfl), (Nat.le_of_ble_eq_true rfl)⟩ ⟨(Nat.le_of_ble_eq_true rfl), (Nat.le_of_ble_eq_true rfl)⟩ (fun v2 M1 => ?_)
    refine r_icmp_gt (tgt := 140) hz dX8_claim_52 rfl ?_ ?_
    · refine r_aload_n hz dX8_claim_140 0 rfl ?_
      refine r_iload_n hz dX8_claim_141 1 rfl ?_
      refine r_iload_n hz dX8_claim_142 3 rfl ?_
      refine r_callVv (As := fun _ => [.int x1, .int x3]) cl8 hz (fun _ _ h => t_X8_pays _ _ _ _ _ _ h) cal_X8_pays dX8_claim_143 wm_6_133 wm_6_135 wm_p_74 rfl rfl (Nat.le_of_ble_eq_true rfl) ⟨(Nat.le_of_ble_eq_true rfl), (Nat.le_of_ble_eq_true rfl)⟩ ⟨(Nat.le_of_ble_eq_true rfl), (Nat.le_of_ble_eq_true rfl)⟩ (fun _ M3 => ?_)
      refine r_aload_n hz dX8_claim_146 0 rfl ?_
      refine r_getR (j := 17) cl8 hz dX8_claim_147 (by decide) wm_5_73 rfl (fun q4 => ?_)
      refine r_sipush (v := 1383) hz dX8_claim_150 rfl ?_
      refine r_bipush (v := 6) hz dX8_claim_153 rfl ?_
      refine r_iload_n hz dX8_claim_155 2 rfl ?_
      refine r_imul hz dX8_claim_156 ?_
      refine r_iadd hz dX8_claim_157 ?_
      refine r_iconst (v := 1) hz dX8_claim_158 rfl ?_
      refine r_iadd hz dX8_claim_159 ?_
      refine r_dup2 hz dX8_claim_160 rfl rfl ?_
      refine r_iald hz dX8_claim_161 ?_
      refine r_iload_n hz dX8_claim_162 3 rfl ?_
      refine r_iadd hz dX8_claim_163 ?_
      refine r_iast hz dX8_claim_164 ?_
      refine r_nmM (fun M5 => ?_)
      refine r_iload_n hz dX8_claim_165 3 rfl ?_
      exact r_iret hz hq dX8_claim_166 (Nat.le_of_ble_eq_true rfl) (Nat.le_of_ble_eq_true rfl)
    · refine r_iload_n hz dX8_claim_55 2 rfl ?_
      refine r_iload hz dX8_claim_56 4 rfl ?_
      refine r_callSi (As := fun _ => [.int x2, .int x4]) hz (fun _ _ h => t_X8_bondAt _ _ _ _ _ h) cal_X8_bondAt dX8_claim_58 wm_6_72 wm_6_73 rfl rfl (Nat.le_of_ble_eq_true rfl) ⟨(Nat.le_of_ble_eq_true rfl), (Nat.le_of_ble_eq_true rfl)⟩ ⟨(Nat.le_of_ble_eq_true rfl), (Nat.le_of_ble_eq_true rfl)⟩ (fun v7 M6 => ?_)
      refine r_istore (lv' := [(5, .int v7), (0, .ref x0), (1, .int x1), (2, .int x2), (3, .int x3), (4, .int x4)]) hz dX8_claim_61 (by decide) rfl ?_
      refine r_aload_n hz dX8_claim_63 1 rfl ?_
      refine r_getR (j := 17) cl8 hz dX8_claim_64 (by decide) wm_5_73 rfl (fun q8 => ?_)
      refine r_iconst (v := 0) hz dX8_claim_67 rfl ?_
      refine r_iload hz dX8_claim_68 0 rfl ?_
      refine r_iadd hz dX8_claim_70 ?_
      refine r_iald hz dX8_claim_71 ?_
      refine r_iconst (v := 1) hz dX8_claim_72 rfl ?_
      refine r_icmp_ne (tgt := 134) hz dX8_claim_73 rfl ?_ ?_
      · refine r_iinc (v := (x4 + (1 : Int32))) (lv' := [(4, .int (x4 + (1 : Int32))), (5, .int v7), (0, .ref x0), (1, .int x1), (2, .int x2), (3, .int x3)]) hz dX8_claim_134 5 rfl rfl (by decide) rfl ?_
        refine r_goto (tgt := 44) hz dX8_claim_137 rfl ?_
        refine r_sub [2, 3, 4, 5, 0] rfl ?_
        exact ih x0 x1 x2 x3 (x4 + (1 : Int32)) M6
      · refine r_aload_n hz dX8_claim_76 1 rfl ?_
        refine r_getR (j := 17) cl8 hz dX8_claim_77 (by decide) wm_5_73 rfl (fun q10 => ?_)
        refine r_sipush (v := 240) hz dX8_claim_80 rfl ?_
        refine r_iload hz dX8_claim_83 0 rfl ?_
        refine r_iadd hz dX8_claim_85 ?_
        refine r_iald hz dX8_claim_86 ?_
        refine r_iload_n hz dX8_claim_87 2 rfl ?_
        refine r_iconst (v := 1) hz dX8_claim_88 rfl ?_
        refine r_iadd hz dX8_claim_89 ?_
        refine r_icmp_ne (tgt := 134) hz dX8_claim_90 rfl ?_ ?_
        · refine r_iinc (v := (x4 + (1 : Int32))) (lv' := [(4, .int (x4 + (1 : Int32))), (5, .int v7), (0, .ref x0), (1, .int x1), (2, .int x2), (3, .int x3)]) hz dX8_claim_134 5 rfl rfl (by decide) rfl ?_
          refine r_goto (tgt := 44) hz dX8_claim_137 rfl ?_
          refine r_sub [2, 3, 4, 5, 0] rfl ?_
          exact ih x0 x1 x2 x3 (x4 + (1 : Int32)) M6
        · refine r_aload_n hz dX8_claim_93 1 rfl ?_
          refine r_getR (j := 17) cl8 hz dX8_claim_94 (by decide) wm_5_73 rfl (fun q12 => ?_)
          refine r_iconst (v := 0) hz dX8_claim_97 rfl ?_
          refine r_iload hz dX8_claim_98 0 rfl ?_
          refine r_iadd hz dX8_claim_100 ?_
          refine r_iconst (v := 2) hz dX8_claim_101 rfl ?_
          refine r_iast hz dX8_claim_102 ?_
          refine r_nmM (fun M13 => ?_)
          refine r_aload_n hz dX8_claim_103 1 rfl ?_
          refine r_getR (j := 17) cl8 hz dX8_claim_104 (by decide) wm_5_73 rfl (fun q14 => ?_)
          refine r_sipush (v := 960) hz dX8_claim_107 rfl ?_
          refine r_iload hz dX8_claim_110 0 rfl ?_
          refine r_iadd hz dX8_claim_112 ?_
          refine r_dup2 hz dX8_claim_113 rfl rfl ?_
          refine r_iald hz dX8_claim_114 ?_
          refine r_aload_n hz dX8_claim_115 1 rfl ?_
          refine r_iload_n hz dX8_claim_116 3 rfl ?_
          refine r_iload hz dX8_claim_117 5 rfl ?_
          refine r_callVi (As := fun _ => [.int x2, .int x4]) cl8 hz (fun _ _ h => t_X8_owedFor _ _ _ _ _ _ h) cal_X8_owedFor dX8_claim_119 wm_6_160 wm_6_162 wm_p_79 rfl rfl (Nat.le_of_ble_eq_true rfl) ⟨(Nat.le_of_ble_eq_true rfl), (Nat.le_of_ble_eq_true rfl)⟩ ⟨(Nat.le_of_ble_eq_true rfl), (Nat.le_of_ble_eq_true rfl)⟩ (fun v16 M15 => ?_)
          refine r_iadd hz dX8_claim_122 ?_
          refine r_iast hz dX8_claim_123 ?_
          refine r_nmM (fun M17 => ?_)
          refine r_iload_n hz dX8_claim_124 4 rfl ?_
          refine r_aload_n hz dX8_claim_125 1 rfl ?_
          refine r_iload_n hz dX8_claim_126 3 rfl ?_
          refine r_iload hz dX8_claim_127 5 rfl ?_
          refine r_callVi (As := fun _ => [.int x2, .int x4]) cl8 hz (fun _ _ h => t_X8_owedFor _ _ _ _ _ _ h) cal_X8_owedFor dX8_claim_129 wm_6_160 wm_6_162 wm_p_79 rfl rfl (Nat.le_of_ble_eq_true rfl) ⟨(Nat.le_of_ble_eq_true rfl), (Nat.le_of_ble_eq_true rfl)⟩ ⟨(Nat.le_of_ble_eq_true rfl), (Nat.le_of_ble_eq_true rfl)⟩ (fun v19 M18 => ?_)
          refine r_iadd hz dX8_claim_132 ?_
          refine r_nmi (fun v20 => ?_)
          refine r_istore_n (lv' := [(3, .int v20), (5, .int v7), (0, .ref x0), (1, .int x1), (2, .int x2), (4, .int x4)]) hz dX8_claim_133 (by decide) rfl ?_
          refine r_iinc (v := (x4 + (1 : Int32))) (lv' := [(4, .int (x4 + (1 : Int32))), (3, .int v20), (5, .int v7), (0, .ref x0), (1, .int x1), (2, .int x2)]) hz dX8_claim_134 5 rfl rfl (by decide) rfl ?_
          refine r_goto (tgt := 44) hz dX8_claim_137 rfl ?_
          refine r_sub [3, 4, 5, 1, 0] rfl ?_
          exact ih x0 x1 x2 v20 (x4 + (1 : Int32)) M18
def f_X8_claim (p0 : Nat) (p1 : Int32) (p2 : Int32) (M : Mm) : Option (Int32 × Mm) :=
  ck (gK M p0 = 8) (nm (sI M p0 0 (0 : Int32)) fun M1 =>
  ck (gK M1 p0 = 8) (bd (f_X8_isHolder p0 p1 M1) fun v3 M2 =>
  (if v3 = 0 then
    some ((-1 : Int32), M2)
  else
    ck (gK M2 p0 = 8) (bd (f_X8_isLoan p0 p2 M2) fun v5 M4 =>
    (if ¬ v5 = 0 then
      ck (gK M4 p0 = 8) (bd (f_X8_held p0 p1 p2 (1 : Int32) M4) fun v7 M6 =>
      (if ¬ v7 = 0 then
        ck (gK M6 p0 = 8) (bd (f_X8_keeps p0 M6) fun _ M8 =>
        f_X8_claim_44 FU p0 p1 p2 (0 : Int32) (1 : Int32) M8)
      else
        some ((0 : Int32), M6)))
    else
      some ((-1 : Int32), M4))))))
set_option maxRecDepth 20000 in
set_option maxHeartbeats 4000000 in
theorem t_X8_claim (p0 : Nat) (p1 : Int32) (p2 : Int32) (M : Mm) (x : Int32) (M' : Mm) (h : f_X8_claim p0 p1 p2 M = some (x, M')) : Ctr yX8_claim cX8_claim 6 (some .int) rX8_claim (fun _ => [.ref p0, .int p1, .int p2]) M (zI x) M' := by
  refine ctr_of (plainFor_of_name (by decide)) (fun _ => Nat.le_of_ble_eq_true rfl) (fun z hz hin hq => ?_)
  have key : Sim z 0 [(0, .ref p0), (1, .int p1), (2, .int p2)] [] M 0 0 (f_X8_claim p0 p1 p2 M) (fun a b => a = x ∧ b = M') := by
    have hq : Ret z zI (fun a b => a = x ∧ b = M') := fun a b e => by rw [e.1, e.2]; exact hq
    unfold f_X8_claim
    refine r_aload_n hz dX8_claim_0 0 rfl ?_
    refine r_iconst (v := 0) hz dX8_claim_1 rfl ?_
    refine r_putI (j := 0) cl8 hz dX8_claim_2 (by decide) wm_5_56 (Or.inl rfl) rfl rfl rfl ?_
    refine r_nmM (fun M1 => ?_)
    refine r_aload_n hz dX8_claim_5 0 rfl ?_
    refine r_iload_n hz dX8_claim_6 1 rfl ?_
    refine r_callVi (As := fun _ => [.int p1]) cl8 hz (fun _ _ h => t_X8_isHolder _ _ _ _ _ h) cal_X8_isHolder dX8_claim_7 wm_6_88 wm_6_90 wm_p_68 rfl rfl (Nat.le_of_ble_eq_true rfl) ⟨(Nat.le_of_ble_eq_true rfl), (Nat.le_of_ble_eq_true rfl)⟩ ⟨(Nat.le_of_ble_eq_true rfl), (Nat.le_of_ble_eq_true rfl)⟩ (fun v3 M2 => ?_)
    refine r_if_eq (tgt := 21) hz dX8_claim_10 rfl ?_ ?_
    · refine r_iconst (v := -1) hz dX8_claim_21 rfl ?_
      exact r_iret hz hq dX8_claim_22 (Nat.le_of_ble_eq_true rfl) (Nat.le_of_ble_eq_true rfl)
    · refine r_aload_n hz dX8_claim_13 0 rfl ?_
      refine r_iload_n hz dX8_claim_14 2 rfl ?_
      refine r_callVi (As := fun _ => [.int p2]) cl8 hz (fun _ _ h => t_X8_isLoan _ _ _ _ _ h) cal_X8_isLoan dX8_claim_15 wm_6_79 wm_6_81 wm_p_67 rfl rfl (Nat.le_of_ble_eq_true rfl) ⟨(Nat.le_of_ble_eq_true rfl), (Nat.le_of_ble_eq_true rfl)⟩ ⟨(Nat.le_of_ble_eq_true rfl), (Nat.le_of_ble_eq_true rfl)⟩ (fun v5 M4 => ?_)
      refine r_if_ne (tgt := 23) hz dX8_claim_18 rfl ?_ ?_
      · refine r_aload_n hz dX8_claim_23 0 rfl ?_
        refine r_iload_n hz dX8_claim_24 1 rfl ?_
        refine r_iload_n hz dX8_claim_25 2 rfl ?_
        refine r_iconst (v := 1) hz dX8_claim_26 rfl ?_
        refine r_callVi (As := fun _ => [.int p1, .int p2, .int (1 : Int32)]) cl8 hz (fun _ _ h => t_X8_held _ _ _ _ _ _ _ h) cal_X8_held dX8_claim_27 wm_6_172 wm_6_93 wm_6_94 rfl rfl (Nat.le_of_ble_eq_true rfl) ⟨(Nat.le_of_ble_eq_true rfl), (Nat.le_of_ble_eq_true rfl)⟩ ⟨(Nat.le_of_ble_eq_true rfl), (Nat.le_of_ble_eq_true rfl)⟩ (fun v7 M6 => ?_)
        refine r_if_ne (tgt := 35) hz dX8_claim_30 rfl ?_ ?_
        · refine r_aload_n hz dX8_claim_35 0 rfl ?_
          refine r_callVv (As := fun _ => []) cl8 hz (fun _ _ h => t_X8_keeps _ _ _ _ h) cal_X8_keeps dX8_claim_36 wm_6_125 wm_6_127 wm_p_72 rfl rfl (Nat.le_of_ble_eq_true rfl) ⟨(Nat.le_of_ble_eq_true rfl), (Nat.le_of_ble_eq_true rfl)⟩ ⟨(Nat.le_of_ble_eq_true rfl), (Nat.le_of_ble_eq_true rfl)⟩ (fun _ M8 => ?_)
          refine r_iconst (v := 0) hz dX8_claim_39 rfl ?_
          refine r_istore_n (lv' := [(3, .int (0 : Int32)), (0, .ref p0), (1, .int p1), (2, .int p2)]) hz dX8_claim_40 (by decide) rfl ?_
          refine r_iconst (v := 1) hz dX8_claim_41 rfl ?_
          refine r_istore (lv' := [(4, .int (1 : Int32)), (3, .int (0 : Int32)), (0, .ref p0), (1, .int p1), (2, .int p2)]) hz dX8_claim_42 (by decide) rfl ?_
          refine r_sub [2, 3, 4, 1, 0] rfl ?_
          exact s_X8_claim_44 hz hq FU p0 p1 p2 (0 : Int32) (1 : Int32) M8
        · refine r_iconst (v := 0) hz dX8_claim_33 rfl ?_
          exact r_iret hz hq dX8_claim_34 (Nat.le_of_ble_eq_true rfl) (Nat.le_of_ble_eq_true rfl)
      · refine r_iconst (v := -1) hz dX8_claim_21 rfl ?_
        exact r_iret hz hq dX8_claim_22 (Nat.le_of_ble_eq_true rfl) (Nat.le_of_ble_eq_true rfl)
  exact key x M' h ⟨rfl, rfl⟩
theorem dX8_sell_0 : decode cX8_sell 0 = .ok (.aload_n 0, 1) := by decide +kernel
theorem dX8_sell_1 : decode cX8_sell 1 = .ok (.iconst 0, 1) := by decide +kernel
theorem dX8_sell_2 : decode cX8_sell 2 = .ok (.putfield 46, 3) := by decide +kernel
theorem dX8_sell_5 : decode cX8_sell 5 = .ok (.aload_n 0, 1) := by decide +kernel
theorem dX8_sell_6 : decode cX8_sell 6 = .ok (.iload_n 1, 1) := by decide +kernel
theorem dX8_sell_7 : decode cX8_sell 7 = .ok (.iload_n 2, 1) := by decide +kernel
theorem dX8_sell_8 : decode cX8_sell 8 = .ok (.invokevirtual 249, 3) := by decide +kernel
theorem dX8_sell_11 : decode cX8_sell 11 = .ok (.ifCond .eq 24, 3) := by decide +kernel
theorem dX8_sell_14 : decode cX8_sell 14 = .ok (.aload_n 0, 1) := by decide +kernel
theorem dX8_sell_15 : decode cX8_sell 15 = .ok (.iload_n 3, 1) := by decide +kernel
theorem dX8_sell_16 : decode cX8_sell 16 = .ok (.invokevirtual 244, 3) := by decide +kernel
theorem dX8_sell_19 : decode cX8_sell 19 = .ok (.ifCond .eq 16, 3) := by decide +kernel
theorem dX8_sell_22 : decode cX8_sell 22 = .ok (.iload 4, 2) := by decide +kernel
theorem dX8_sell_24 : decode cX8_sell 24 = .ok (.i2l, 1) := by decide +kernel
theorem dX8_sell_25 : decode cX8_sell 25 = .ok (.lconst 0, 1) := by decide +kernel
theorem dX8_sell_26 : decode cX8_sell 26 = .ok (.ldc2_w 315, 3) := by decide +kernel
theorem dX8_sell_29 : decode cX8_sell 29 = .ok (.invokestatic 83, 3) := by decide +kernel
theorem dX8_sell_32 : decode cX8_sell 32 = .ok (.ifCond .ne 5, 3) := by decide +kernel
theorem dX8_sell_35 : decode cX8_sell 35 = .ok (.iconst 0, 1) := by decide +kernel
theorem dX8_sell_36 : decode cX8_sell 36 = .ok (.ireturn, 1) := by decide +kernel
theorem dX8_sell_37 : decode cX8_sell 37 = .ok (.iload_n 1, 1) := by decide +kernel
theorem dX8_sell_38 : decode cX8_sell 38 = .ok (.iload_n 2, 1) := by decide +kernel
theorem dX8_sell_39 : decode cX8_sell 39 = .ok (.invokestatic 229, 3) := by decide +kernel
theorem dX8_sell_42 : decode cX8_sell 42 = .ok (.istore 5, 2) := by decide +kernel
theorem dX8_sell_44 : decode cX8_sell 44 = .ok (.aload_n 0, 1) := by decide +kernel
theorem dX8_sell_45 : decode cX8_sell 45 = .ok (.getfield 20, 3) := by decide +kernel
theorem dX8_sell_48 : decode cX8_sell 48 = .ok (.sipush 240, 3) := by decide +kernel
theorem dX8_sell_51 : decode cX8_sell 51 = .ok (.iload 5, 2) := by decide +kernel
theorem dX8_sell_53 : decode cX8_sell 53 = .ok (.iadd, 1) := by decide +kernel
theorem dX8_sell_54 : decode cX8_sell 54 = .ok (.iaload, 1) := by decide +kernel
theorem dX8_sell_55 : decode cX8_sell 55 = .ok (.iconst 1, 1) := by decide +kernel
theorem dX8_sell_56 : decode cX8_sell 56 = .ok (.isub, 1) := by decide +kernel
theorem dX8_sell_57 : decode cX8_sell 57 = .ok (.istore 6, 2) := by decide +kernel
theorem dX8_sell_59 : decode cX8_sell 59 = .ok (.aload_n 0, 1) := by decide +kernel
theorem dX8_sell_60 : decode cX8_sell 60 = .ok (.getfield 20, 3) := by decide +kernel
theorem dX8_sell_63 : decode cX8_sell 63 = .ok (.iconst 0, 1) := by decide +kernel
theorem dX8_sell_64 : decode cX8_sell 64 = .ok (.iload 5, 2) := by decide +kernel
theorem dX8_sell_66 : decode cX8_sell 66 = .ok (.iadd, 1) := by decide +kernel
theorem dX8_sell_67 : decode cX8_sell 67 = .ok (.iaload, 1) := by decide +kernel
theorem dX8_sell_68 : decode cX8_sell 68 = .ok (.ifCond .ne 29, 3) := by decide +kernel
theorem dX8_sell_71 : decode cX8_sell 71 = .ok (.iload 6, 2) := by decide +kernel
theorem dX8_sell_73 : decode cX8_sell 73 = .ok (.ifCond .lt 24, 3) := by decide +kernel
theorem dX8_sell_76 : decode cX8_sell 76 = .ok (.iload 6, 2) := by decide +kernel
theorem dX8_sell_78 : decode cX8_sell 78 = .ok (.iload_n 3, 1) := by decide +kernel
theorem dX8_sell_79 : decode cX8_sell 79 = .ok (.if_icmp .eq 18, 3) := by decide +kernel
theorem dX8_sell_82 : decode cX8_sell 82 = .ok (.aload_n 0, 1) := by decide +kernel
theorem dX8_sell_83 : decode cX8_sell 83 = .ok (.getfield 20, 3) := by decide +kernel
theorem dX8_sell_86 : decode cX8_sell 86 = .ok (.sipush 1200, 3) := by decide +kernel
theorem dX8_sell_89 : decode cX8_sell 89 = .ok (.iload_n 3, 1) := by decide +kernel
theorem dX8_sell_90 : decode cX8_sell 90 = .ok (.iadd, 1) := by decide +kernel
theorem dX8_sell_91 : decode cX8_sell 91 = .ok (.iaload, 1) := by decide +kernel
theorem dX8_sell_92 : decode cX8_sell 92 = .ok (.iload 4, 2) := by decide +kernel
theorem dX8_sell_94 : decode cX8_sell 94 = .ok (.if_icmp .ge 5, 3) := by decide +kernel
theorem dX8_sell_97 : decode cX8_sell 97 = .ok (.iconst 0, 1) := by decide +kernel
theorem dX8_sell_98 : decode cX8_sell 98 = .ok (.ireturn, 1) := by decide +kernel
theorem dX8_sell_99 : decode cX8_sell 99 = .ok (.aload_n 0, 1) := by decide +kernel
theorem dX8_sell_100 : decode cX8_sell 100 = .ok (.invokevirtual 302, 3) := by decide +kernel
theorem dX8_sell_103 : decode cX8_sell 103 = .ok (.aload_n 0, 1) := by decide +kernel
theorem dX8_sell_104 : decode cX8_sell 104 = .ok (.getfield 20, 3) := by decide +kernel
theorem dX8_sell_107 : decode cX8_sell 107 = .ok (.sipush 1200, 3) := by decide +kernel
theorem dX8_sell_110 : decode cX8_sell 110 = .ok (.iload_n 3, 1) := by decide +kernel
theorem dX8_sell_111 : decode cX8_sell 111 = .ok (.iadd, 1) := by decide +kernel
theorem dX8_sell_112 : decode cX8_sell 112 = .ok (.dup2, 1) := by decide +kernel
theorem dX8_sell_113 : decode cX8_sell 113 = .ok (.iaload, 1) := by decide +kernel
theorem dX8_sell_114 : decode cX8_sell 114 = .ok (.iload 4, 2) := by decide +kernel
theorem dX8_sell_116 : decode cX8_sell 116 = .ok (.isub, 1) := by decide +kernel
theorem dX8_sell_117 : decode cX8_sell 117 = .ok (.iastore, 1) := by decide +kernel
theorem dX8_sell_118 : decode cX8_sell 118 = .ok (.aload_n 0, 1) := by decide +kernel
theorem dX8_sell_119 : decode cX8_sell 119 = .ok (.iload 6, 2) := by decide +kernel
theorem dX8_sell_121 : decode cX8_sell 121 = .ok (.iload 4, 2) := by decide +kernel
theorem dX8_sell_123 : decode cX8_sell 123 = .ok (.invokevirtual 281, 3) := by decide +kernel
theorem dX8_sell_126 : decode cX8_sell 126 = .ok (.aload_n 0, 1) := by decide +kernel
theorem dX8_sell_127 : decode cX8_sell 127 = .ok (.getfield 20, 3) := by decide +kernel
theorem dX8_sell_130 : decode cX8_sell 130 = .ok (.sipush 240, 3) := by decide +kernel
theorem dX8_sell_133 : decode cX8_sell 133 = .ok (.iload 5, 2) := by decide +kernel
theorem dX8_sell_135 : decode cX8_sell 135 = .ok (.iadd, 1) := by decide +kernel
theorem dX8_sell_136 : decode cX8_sell 136 = .ok (.iload_n 3, 1) := by decide +kernel
theorem dX8_sell_137 : decode cX8_sell 137 = .ok (.iconst 1, 1) := by decide +kernel
theorem dX8_sell_138 : decode cX8_sell 138 = .ok (.iadd, 1) := by decide +kernel
theorem dX8_sell_139 : decode cX8_sell 139 = .ok (.iastore, 1) := by decide +kernel
theorem dX8_sell_140 : decode cX8_sell 140 = .ok (.iconst 1, 1) := by decide +kernel
theorem dX8_sell_141 : decode cX8_sell 141 = .ok (.ireturn, 1) := by decide +kernel
abbrev rX8_sell : Room := { frames := 3, cells := 0, slots := 0, locals := 68 }
theorem cal_X8_sell : CalOk yX8_sell cX8_sell 7 (some .boolean) 4 := ⟨wm_6_176, wm_1_9, by decide, by decide, by decide +kernel⟩
def f_X8_sell (p0 : Nat) (p1 : Int32) (p2 : Int32) (p3 : Int32) (p4 : Int32) (M : Mm) : Option (Int32 × Mm) :=
  ck (gK M p0 = 8) (nm (sI M p0 0 (0 : Int32)) fun M1 =>
  ck (gK M1 p0 = 8) (bd (f_X8_isBond p0 p1 p2 M1) fun v3 M2 =>
  (if v3 = 0 then
    some ((0 : Int32), M2)
  else
    ck (gK M2 p0 = 8) (bd (f_X8_isHolder p0 p3 M2) fun v5 M4 =>
    (if v5 = 0 then
      some ((0 : Int32), M4)
    else
      bd (f_X8_within (p4).toInt64 (0 : Int64) (99999 : Int64) M4) fun v7 M6 =>
      (if ¬ v7 = 0 then
        bd (f_X8_bondAt p1 p2 M6) fun v9 M8 =>
        ck (gK M8 p0 = 8) (bR (gR M8 p0 17) fun q10 => ck (gK M8 q10 = 10 ∧ inb ((240 : Int32) + v9) (gN M8 q10)) (nm ((gI M8 q10 (((240 : Int32) + v9)).toNatClampNeg) - (1 : Int32)) fun v11 =>
        ck (gK M8 p0 = 8) (bR (gR M8 p0 17) fun q12 => ck (gK M8 q12 = 10 ∧ inb ((0 : Int32) + v9) (gN M8 q12)) ((if ¬ (gI M8 q12 (((0 : Int32) + v9)).toNatClampNeg) = 0 then
          some ((0 : Int32), M8)
        else
          (if v11 < 0 then
            some ((0 : Int32), M8)
          else
            (if v11 = p3 then
              some ((0 : Int32), M8)
            else
              ck (gK M8 p0 = 8) (bR (gR M8 p0 17) fun q13 => ck (gK M8 q13 = 10 ∧ inb ((1200 : Int32) + p3) (gN M8 q13)) ((if p4 ≤ (gI M8 q13 (((1200 : Int32) + p3)).toNatClampNeg) then
                ck (gK M8 p0 = 8) (bd (f_X8_keeps p0 M8) fun _ M14 =>
                ck (gK M14 p0 = 8) (bR (gR M14 p0 17) fun q15 => ck (gK M14 q15 = 10 ∧ inb ((1200 : Int32) + p3) (gN M14 q15)) (ck (gK M14 q15 = 10 ∧ inb ((1200 : Int32) + p3) (gN M14 q15)) (nm (sI M14 q15 (((1200 : Int32) + p3)).toNatClampNeg ((gI M14 q15 (((1200 : Int32) + p3)).toNatClampNeg) - p4)) fun M16 =>
                ck (gK M16 p0 = 8) (bd (f_X8_pays p0 v11 p4 M16) fun _ M17 =>
                ck (gK M17 p0 = 8) (bR (gR M17 p0 17) fun q18 => ck (gK M17 q18 = 10 ∧ inb ((240 : Int32) + v9) (gN M17 q18)) (nm (sI M17 q18 (((240 : Int32) + v9)).toNatClampNeg (p3 + (1 : Int32))) fun M19 =>
                some ((1 : Int32), M19))))))))
              else
                some ((0 : Int32), M8)))))))))))
      else
        some ((0 : Int32), M6)))))))
set_option maxRecDepth 20000 in
set_option maxHeartbeats 4000000 in
theorem t_X8_sell (p0 : Nat) (p1 : Int32) (p2 : Int32) (p3 : Int32) (p4 : Int32) (M : Mm) (x : Int32) (M' : Mm) (h : f_X8_sell p0 p1 p2 p3 p4 M = some (x, M')) : Ctr yX8_sell cX8_sell 7 (some .boolean) rX8_sell (fun _ => [.ref p0, .int p1, .int p2, .int p3, .int p4]) M (zI x) M' := by
  refine ctr_of (plainFor_of_name (by decide)) (fun _ => Nat.le_of_ble_eq_true rfl) (fun z hz hin hq => ?_)
  have key : Sim z 0 [(0, .ref p0), (1, .int p1), (2, .int p2), (3, .int p3), (4, .int p4)] [] M 0 0 (f_X8_sell p0 p1 p2 p3 p4 M) (fun a b => a = x ∧ b = M') := by
    have hq : Ret z zI (fun a b => a = x ∧ b = M') := fun a b e => by rw [e.1, e.2]; exact hq
    unfold f_X8_sell
    refine r_aload_n hz dX8_sell_0 0 rfl ?_
    refine r_iconst (v := 0) hz dX8_sell_1 rfl ?_
    refine r_putI (j := 0) cl8 hz dX8_sell_2 (by decide) wm_5_56 (Or.inl rfl) rfl rfl rfl ?_
    refine r_nmM (fun M1 => ?_)
    refine r_aload_n hz dX8_sell_5 0 rfl ?_
    refine r_iload_n hz dX8_sell_6 1 rfl ?_
    refine r_iload_n hz dX8_sell_7 2 rfl ?_
    refine r_callVi (As := fun _ => [.int p1, .int p2]) cl8 hz (fun _ _ h => t_X8_isBond _ _ _ _ _ _ h) cal_X8_isBond dX8_sell_8 wm_6_101 wm_6_103 wm_p_69 rfl rfl (Nat.le_of_ble_eq_true rfl) ⟨(Nat.le_of_ble_eq_true rfl), (Nat.le_of_ble_eq_true rfl)⟩ ⟨(Nat.le_of_ble_eq_true rfl), (Nat.le_of_ble_eq_true rfl)⟩ (fun v3 M2 => ?_)
    refine r_if_eq (tgt := 35) hz dX8_sell_11 rfl ?_ ?_
    · refine r_iconst (v := 0) hz dX8_sell_35 rfl ?_
      exact r_zret hz hq dX8_sell_36 (Or.inl rfl) (Nat.le_of_ble_eq_true rfl) (Nat.le_of_ble_eq_true rfl)
    · refine r_aload_n hz dX8_sell_14 0 rfl ?_
      refine r_iload_n hz dX8_sell_15 3 rfl ?_
      refine r_callVi (As := fun _ => [.int p3]) cl8 hz (fun _ _ h => t_X8_isHolder _ _ _ _ _ h) cal_X8_isHolder dX8_sell_16 wm_6_88 wm_6_90 wm_p_68 rfl rfl (Nat.le_of_ble_eq_true rfl) ⟨(Nat.le_of_ble_eq_true rfl), (Nat.le_of_ble_eq_true rfl)⟩ ⟨(Nat.le_of_ble_eq_true rfl), (Nat.le_of_ble_eq_true rfl)⟩ (fun v5 M4 => ?_)
      refine r_if_eq (tgt := 35) hz dX8_sell_19 rfl ?_ ?_
      · refine r_iconst (v := 0) hz dX8_sell_35 rfl ?_
        exact r_zret hz hq dX8_sell_36 (Or.inl rfl) (Nat.le_of_ble_eq_true rfl) (Nat.le_of_ble_eq_true rfl)
      · refine r_iload hz dX8_sell_22 4 rfl ?_
        refine r_i2l hz dX8_sell_24 ?_
        refine r_lconst (v := 0) hz dX8_sell_25 rfl ?_
        refine r_ldc2 (v := 99999) hz dX8_sell_26 wm_6_177 ?_
        refine r_callSi (As := fun _ => [.long (p4).toInt64, .long (0 : Int64), .long (99999 : Int64)]) hz (fun _ _ h => t_X8_within _ _ _ _ _ _ h) cal_X8_within dX8_sell_29 wm_5_175 wm_5_176 rfl rfl (Nat.le_of_ble_eq_true rfl) ⟨(Nat.le_of_ble_eq_true rfl), (Nat.le_of_ble_eq_true rfl)⟩ ⟨(Nat.le_of_ble_eq_true rfl), (Nat.le_of_ble_eq_true rfl)⟩ (fun v7 M6 => ?_)
        refine r_if_ne (tgt := 37) hz dX8_sell_32 rfl ?_ ?_
        · refine r_iload_n hz dX8_sell_37 1 rfl ?_
          refine r_iload_n hz dX8_sell_38 2 rfl ?_
          refine r_callSi (As := fun _ => [.int p1, .int p2]) hz (fun _ _ h => t_X8_bondAt _ _ _ _ _ h) cal_X8_bondAt dX8_sell_39 wm_6_72 wm_6_73 rfl rfl (Nat.le_of_ble_eq_true rfl) ⟨(Nat.le_of_ble_eq_true rfl), (Nat.le_of_ble_eq_true rfl)⟩ ⟨(Nat.le_of_ble_eq_true rfl), (Nat.le_of_ble_eq_true rfl)⟩ (fun v9 M8 => ?_)
          refine r_istore (lv' := [(5, .int v9), (0, .ref p0), (1, .int p1), (2, .int p2), (3, .int p3), (4, .int p4)]) hz dX8_sell_42 (by decide) rfl ?_
          refine r_aload_n hz dX8_sell_44 1 rfl ?_
          refine r_getR (j := 17) cl8 hz dX8_sell_45 (by decide) wm_5_73 rfl (fun q10 => ?_)
          refine r_sipush (v := 240) hz dX8_sell_48 rfl ?_
          refine r_iload hz dX8_sell_51 0 rfl ?_
          refine r_iadd hz dX8_sell_53 ?_
          refine r_iald hz dX8_sell_54 ?_
          refine r_iconst (v := 1) hz dX8_sell_55 rfl ?_
          refine r_isub hz dX8_sell_56 ?_
          refine r_nmi (fun v11 => ?_)
          refine r_istore (lv' := [(6, .int v11), (5, .int v9), (0, .ref p0), (1, .int p1), (2, .int p2), (3, .int p3), (4, .int p4)]) hz dX8_sell_57 (by decide) rfl ?_
          refine r_aload_n hz dX8_sell_59 2 rfl ?_
          refine r_getR (j := 17) cl8 hz dX8_sell_60 (by decide) wm_5_73 rfl (fun q12 => ?_)
          refine r_iconst (v := 0) hz dX8_sell_63 rfl ?_
          refine r_iload hz dX8_sell_64 1 rfl ?_
          refine r_iadd hz dX8_sell_66 ?_
          refine r_iald hz dX8_sell_67 ?_
          refine r_if_ne (tgt := 97) hz dX8_sell_68 rfl ?_ ?_
          · refine r_iconst (v := 0) hz dX8_sell_97 rfl ?_
            exact r_zret hz hq dX8_sell_98 (Or.inl rfl) (Nat.le_of_ble_eq_true rfl) (Nat.le_of_ble_eq_true rfl)
          · refine r_iload hz dX8_sell_71 0 rfl ?_
            refine r_if_lt (tgt := 97) hz dX8_sell_73 rfl ?_ ?_
            · refine r_iconst (v := 0) hz dX8_sell_97 rfl ?_
              exact r_zret hz hq dX8_sell_98 (Or.inl rfl) (Nat.le_of_ble_eq_true rfl) (Nat.le_of_ble_eq_true rfl)
            · refine r_iload hz dX8_sell_76 0 rfl ?_
              refine r_iload_n hz dX8_sell_78 5 rfl ?_
              refine r_icmp_eq (tgt := 97) hz dX8_sell_79 rfl ?_ ?_
              · refine r_iconst (v := 0) hz dX8_sell_97 rfl ?_
                exact r_zret hz hq dX8_sell_98 (Or.inl rfl) (Nat.le_of_ble_eq_true rfl) (Nat.le_of_ble_eq_true rfl)
              · refine r_aload_n hz dX8_sell_82 2 rfl ?_
                refine r_getR (j := 17) cl8 hz dX8_sell_83 (by decide) wm_5_73 rfl (fun q13 => ?_)
                refine r_sipush (v := 1200) hz dX8_sell_86 rfl ?_
                refine r_iload_n hz dX8_sell_89 5 rfl ?_
                refine r_iadd hz dX8_sell_90 ?_
                refine r_iald hz dX8_sell_91 ?_
                refine r_iload hz dX8_sell_92 6 rfl ?_
                refine r_icmp_ge (tgt := 99) hz dX8_sell_94 rfl ?_ ?_
                · refine r_aload_n hz dX8_sell_99 2 rfl ?_
                  refine r_callVv (As := fun _ => []) cl8 hz (fun _ _ h => t_X8_keeps _ _ _ _ h) cal_X8_keeps dX8_sell_100 wm_6_125 wm_6_127 wm_p_72 rfl rfl (Nat.le_of_ble_eq_true rfl) ⟨(Nat.le_of_ble_eq_true rfl), (Nat.le_of_ble_eq_true rfl)⟩ ⟨(Nat.le_of_ble_eq_true rfl), (Nat.le_of_ble_eq_true rfl)⟩ (fun _ M14 => ?_)
                  refine r_aload_n hz dX8_sell_103 2 rfl ?_
                  refine r_getR (j := 17) cl8 hz dX8_sell_104 (by decide) wm_5_73 rfl (fun q15 => ?_)
                  refine r_sipush (v := 1200) hz dX8_sell_107 rfl ?_
                  refine r_iload_n hz dX8_sell_110 5 rfl ?_
                  refine r_iadd hz dX8_sell_111 ?_
                  refine r_dup2 hz dX8_sell_112 rfl rfl ?_
                  refine r_iald hz dX8_sell_113 ?_
                  refine r_iload hz dX8_sell_114 6 rfl ?_
                  refine r_isub hz dX8_sell_116 ?_
                  refine r_iast hz dX8_sell_117 ?_
                  refine r_nmM (fun M16 => ?_)
                  refine r_aload_n hz dX8_sell_118 2 rfl ?_
                  refine r_iload hz dX8_sell_119 0 rfl ?_
                  refine r_iload hz dX8_sell_121 6 rfl ?_
                  refine r_callVv (As := fun _ => [.int v11, .int p4]) cl8 hz (fun _ _ h => t_X8_pays _ _ _ _ _ _ h) cal_X8_pays dX8_sell_123 wm_6_133 wm_6_135 wm_p_74 rfl rfl (Nat.le_of_ble_eq_true rfl) ⟨(Nat.le_of_ble_eq_true rfl), (Nat.le_of_ble_eq_true rfl)⟩ ⟨(Nat.le_of_ble_eq_true rfl), (Nat.le_of_ble_eq_true rfl)⟩ (fun _ M17 => ?_)
                  refine r_aload_n hz dX8_sell_126 2 rfl ?_
                  refine r_getR (j := 17) cl8 hz dX8_sell_127 (by decide) wm_5_73 rfl (fun q18 => ?_)
                  refine r_sipush (v := 240) hz dX8_sell_130 rfl ?_
                  refine r_iload hz dX8_sell_133 1 rfl ?_
                  refine r_iadd hz dX8_sell_135 ?_
                  refine r_iload_n hz dX8_sell_136 5 rfl ?_
                  refine r_iconst (v := 1) hz dX8_sell_137 rfl ?_
                  refine r_iadd hz dX8_sell_138 ?_
                  refine r_iast hz dX8_sell_139 ?_
                  refine r_nmM (fun M19 => ?_)
                  refine r_iconst (v := 1) hz dX8_sell_140 rfl ?_
                  exact r_zret hz hq dX8_sell_141 (Or.inr rfl) (Nat.le_of_ble_eq_true rfl) (Nat.le_of_ble_eq_true rfl)
                · refine r_iconst (v := 0) hz dX8_sell_97 rfl ?_
                  exact r_zret hz hq dX8_sell_98 (Or.inl rfl) (Nat.le_of_ble_eq_true rfl) (Nat.le_of_ble_eq_true rfl)
        · refine r_iconst (v := 0) hz dX8_sell_35 rfl ?_
          exact r_zret hz hq dX8_sell_36 (Or.inl rfl) (Nat.le_of_ble_eq_true rfl) (Nat.le_of_ble_eq_true rfl)
  exact key x M' h ⟨rfl, rfl⟩
theorem dX8_put_0 : decode cX8_put 0 = .ok (.aload_n 0, 1) := by decide +kernel
theorem dX8_put_1 : decode cX8_put 1 = .ok (.iconst 0, 1) := by decide +kernel
theorem dX8_put_2 : decode cX8_put 2 = .ok (.putfield 46, 3) := by decide +kernel
theorem dX8_put_5 : decode cX8_put 5 = .ok (.aload_n 0, 1) := by decide +kernel
theorem dX8_put_6 : decode cX8_put 6 = .ok (.iload_n 1, 1) := by decide +kernel
theorem dX8_put_7 : decode cX8_put 7 = .ok (.invokevirtual 222, 3) := by decide +kernel
theorem dX8_put_10 : decode cX8_put 10 = .ok (.ifCond .eq 42, 3) := by decide +kernel
theorem dX8_put_13 : decode cX8_put 13 = .ok (.iload_n 2, 1) := by decide +kernel
theorem dX8_put_14 : decode cX8_put 14 = .ok (.i2l, 1) := by decide +kernel
theorem dX8_put_15 : decode cX8_put 15 = .ok (.lconst 1, 1) := by decide +kernel
theorem dX8_put_16 : decode cX8_put 16 = .ok (.ldc2_w 315, 3) := by decide +kernel
theorem dX8_put_19 : decode cX8_put 19 = .ok (.invokestatic 83, 3) := by decide +kernel
theorem dX8_put_22 : decode cX8_put 22 = .ok (.ifCond .eq 30, 3) := by decide +kernel
theorem dX8_put_25 : decode cX8_put 25 = .ok (.aload_n 0, 1) := by decide +kernel
theorem dX8_put_26 : decode cX8_put 26 = .ok (.iload_n 1, 1) := by decide +kernel
theorem dX8_put_27 : decode cX8_put 27 = .ok (.iconst 4, 1) := by decide +kernel
theorem dX8_put_28 : decode cX8_put 28 = .ok (.invokevirtual 225, 3) := by decide +kernel
theorem dX8_put_31 : decode cX8_put 31 = .ok (.iconst 1, 1) := by decide +kernel
theorem dX8_put_32 : decode cX8_put 32 = .ok (.if_icmp .ne 20, 3) := by decide +kernel
theorem dX8_put_35 : decode cX8_put 35 = .ok (.aload_n 0, 1) := by decide +kernel
theorem dX8_put_36 : decode cX8_put 36 = .ok (.getfield 20, 3) := by decide +kernel
theorem dX8_put_39 : decode cX8_put 39 = .ok (.sipush 1206, 3) := by decide +kernel
theorem dX8_put_42 : decode cX8_put 42 = .ok (.iaload, 1) := by decide +kernel
theorem dX8_put_43 : decode cX8_put 43 = .ok (.aload_n 0, 1) := by decide +kernel
theorem dX8_put_44 : decode cX8_put 44 = .ok (.iload_n 1, 1) := by decide +kernel
theorem dX8_put_45 : decode cX8_put 45 = .ok (.iconst 3, 1) := by decide +kernel
theorem dX8_put_46 : decode cX8_put 46 = .ok (.invokevirtual 225, 3) := by decide +kernel
theorem dX8_put_49 : decode cX8_put 49 = .ok (.if_icmp .lt 5, 3) := by decide +kernel
theorem dX8_put_52 : decode cX8_put 52 = .ok (.iconst (-1), 1) := by decide +kernel
theorem dX8_put_53 : decode cX8_put 53 = .ok (.ireturn, 1) := by decide +kernel
theorem dX8_put_54 : decode cX8_put 54 = .ok (.aload_n 0, 1) := by decide +kernel
theorem dX8_put_55 : decode cX8_put 55 = .ok (.invokevirtual 302, 3) := by decide +kernel
theorem dX8_put_58 : decode cX8_put 58 = .ok (.aload_n 0, 1) := by decide +kernel
theorem dX8_put_59 : decode cX8_put 59 = .ok (.getfield 20, 3) := by decide +kernel
theorem dX8_put_62 : decode cX8_put 62 = .ok (.sipush 1211, 3) := by decide +kernel
theorem dX8_put_65 : decode cX8_put 65 = .ok (.iload_n 1, 1) := by decide +kernel
theorem dX8_put_66 : decode cX8_put 66 = .ok (.iadd, 1) := by decide +kernel
theorem dX8_put_67 : decode cX8_put 67 = .ok (.dup2, 1) := by decide +kernel
theorem dX8_put_68 : decode cX8_put 68 = .ok (.iaload, 1) := by decide +kernel
theorem dX8_put_69 : decode cX8_put 69 = .ok (.iload_n 2, 1) := by decide +kernel
theorem dX8_put_70 : decode cX8_put 70 = .ok (.iadd, 1) := by decide +kernel
theorem dX8_put_71 : decode cX8_put 71 = .ok (.iastore, 1) := by decide +kernel
theorem dX8_put_72 : decode cX8_put 72 = .ok (.aload_n 0, 1) := by decide +kernel
theorem dX8_put_73 : decode cX8_put 73 = .ok (.getfield 20, 3) := by decide +kernel
theorem dX8_put_76 : decode cX8_put 76 = .ok (.sipush 1211, 3) := by decide +kernel
theorem dX8_put_79 : decode cX8_put 79 = .ok (.iload_n 1, 1) := by decide +kernel
theorem dX8_put_80 : decode cX8_put 80 = .ok (.iadd, 1) := by decide +kernel
theorem dX8_put_81 : decode cX8_put 81 = .ok (.iaload, 1) := by decide +kernel
theorem dX8_put_82 : decode cX8_put 82 = .ok (.ireturn, 1) := by decide +kernel
abbrev rX8_put : Room := { frames := 2, cells := 0, slots := 0, locals := 46 }
theorem cal_X8_put : CalOk yX8_put cX8_put 3 (some .int) 2 := ⟨wm_6_181, wm_1_9, by decide, by decide, by decide +kernel⟩
def f_X8_put (p0 : Nat) (p1 : Int32) (p2 : Int32) (M : Mm) : Option (Int32 × Mm) :=
  ck (gK M p0 = 8) (nm (sI M p0 0 (0 : Int32)) fun M1 =>
  ck (gK M1 p0 = 8) (bd (f_X8_isLoan p0 p1 M1) fun v3 M2 =>
  (if v3 = 0 then
    some ((-1 : Int32), M2)
  else
    bd (f_X8_within (p2).toInt64 (1 : Int64) (99999 : Int64) M2) fun v5 M4 =>
    (if v5 = 0 then
      some ((-1 : Int32), M4)
    else
      ck (gK M4 p0 = 8) (bd (f_X8_loanOf p0 p1 (4 : Int32) M4) fun v7 M6 =>
      (if ¬ v7 = (1 : Int32) then
        some ((-1 : Int32), M6)
      else
        ck (gK M6 p0 = 8) (bR (gR M6 p0 17) fun q8 => ck (gK M6 q8 = 10 ∧ inb (1206 : Int32) (gN M6 q8)) (ck (gK M6 p0 = 8) (bd (f_X8_loanOf p0 p1 (3 : Int32) M6) fun v10 M9 =>
        (if (gI M6 q8 ((1206 : Int32)).toNatClampNeg) < v10 then
          ck (gK M9 p0 = 8) (bd (f_X8_keeps p0 M9) fun _ M11 =>
          ck (gK M11 p0 = 8) (bR (gR M11 p0 17) fun q12 => ck (gK M11 q12 = 10 ∧ inb ((1211 : Int32) + p1) (gN M11 q12)) (ck (gK M11 q12 = 10 ∧ inb ((1211 : Int32) + p1) (gN M11 q12)) (nm (sI M11 q12 (((1211 : Int32) + p1)).toNatClampNeg ((gI M11 q12 (((1211 : Int32) + p1)).toNatClampNeg) + p2)) fun M13 =>
          ck (gK M13 p0 = 8) (bR (gR M13 p0 17) fun q14 => ck (gK M13 q14 = 10 ∧ inb ((1211 : Int32) + p1) (gN M13 q14)) (some ((gI M13 q14 (((1211 : Int32) + p1)).toNatClampNeg), M13)))))))
        else
          some ((-1 : Int32), M9)))))))))))
set_option maxRecDepth 20000 in
set_option maxHeartbeats 4000000 in
theorem t_X8_put (p0 : Nat) (p1 : Int32) (p2 : Int32) (M : Mm) (x : Int32) (M' : Mm) (h : f_X8_put p0 p1 p2 M = some (x, M')) : Ctr yX8_put cX8_put 3 (some .int) rX8_put (fun _ => [.ref p0, .int p1, .int p2]) M (zI x) M' := by
  refine ctr_of (plainFor_of_name (by decide)) (fun _ => Nat.le_of_ble_eq_true rfl) (fun z hz hin hq => ?_)
  have key : Sim z 0 [(0, .ref p0), (1, .int p1), (2, .int p2)] [] M 0 0 (f_X8_put p0 p1 p2 M) (fun a b => a = x ∧ b = M') := by
    have hq : Ret z zI (fun a b => a = x ∧ b = M') := fun a b e => by rw [e.1, e.2]; exact hq
    unfold f_X8_put
    refine r_aload_n hz dX8_put_0 0 rfl ?_
    refine r_iconst (v := 0) hz dX8_put_1 rfl ?_
    refine r_putI (j := 0) cl8 hz dX8_put_2 (by decide) wm_5_56 (Or.inl rfl) rfl rfl rfl ?_
    refine r_nmM (fun M1 => ?_)
    refine r_aload_n hz dX8_put_5 0 rfl ?_
    refine r_iload_n hz dX8_put_6 1 rfl ?_
    refine r_callVi (As := fun _ => [.int p1]) cl8 hz (fun _ _ h => t_X8_isLoan _ _ _ _ _ h) cal_X8_isLoan dX8_put_7 wm_6_79 wm_6_81 wm_p_67 rfl rfl (Nat.le_of_ble_eq_true rfl) ⟨(Nat.le_of_ble_eq_true rfl), (Nat.le_of_ble_eq_true rfl)⟩ ⟨(Nat.le_of_ble_eq_true rfl), (Nat.le_of_ble_eq_true rfl)⟩ (fun v3 M2 => ?_)
    refine r_if_eq (tgt := 52) hz dX8_put_10 rfl ?_ ?_
    · refine r_iconst (v := -1) hz dX8_put_52 rfl ?_
      exact r_iret hz hq dX8_put_53 (Nat.le_of_ble_eq_true rfl) (Nat.le_of_ble_eq_true rfl)
    · refine r_iload_n hz dX8_put_13 2 rfl ?_
      refine r_i2l hz dX8_put_14 ?_
      refine r_lconst (v := 1) hz dX8_put_15 rfl ?_
      refine r_ldc2 (v := 99999) hz dX8_put_16 wm_6_177 ?_
      refine r_callSi (As := fun _ => [.long (p2).toInt64, .long (1 : Int64), .long (99999 : Int64)]) hz (fun _ _ h => t_X8_within _ _ _ _ _ _ h) cal_X8_within dX8_put_19 wm_5_175 wm_5_176 rfl rfl (Nat.le_of_ble_eq_true rfl) ⟨(Nat.le_of_ble_eq_true rfl), (Nat.le_of_ble_eq_true rfl)⟩ ⟨(Nat.le_of_ble_eq_true rfl), (Nat.le_of_ble_eq_true rfl)⟩ (fun v5 M4 => ?_)
      refine r_if_eq (tgt := 52) hz dX8_put_22 rfl ?_ ?_
      · refine r_iconst (v := -1) hz dX8_put_52 rfl ?_
        exact r_iret hz hq dX8_put_53 (Nat.le_of_ble_eq_true rfl) (Nat.le_of_ble_eq_true rfl)
      · refine r_aload_n hz dX8_put_25 0 rfl ?_
        refine r_iload_n hz dX8_put_26 1 rfl ?_
        refine r_iconst (v := 4) hz dX8_put_27 rfl ?_
        refine r_callVi (As := fun _ => [.int p1, .int (4 : Int32)]) cl8 hz (fun _ _ h => t_X8_loanOf _ _ _ _ _ _ h) cal_X8_loanOf dX8_put_28 wm_6_68 wm_6_70 wm_p_66 rfl rfl (Nat.le_of_ble_eq_true rfl) ⟨(Nat.le_of_ble_eq_true rfl), (Nat.le_of_ble_eq_true rfl)⟩ ⟨(Nat.le_of_ble_eq_true rfl), (Nat.le_of_ble_eq_true rfl)⟩ (fun v7 M6 => ?_)
        refine r_iconst (v := 1) hz dX8_put_31 rfl ?_
        refine r_icmp_ne (tgt := 52) hz dX8_put_32 rfl ?_ ?_
        · refine r_iconst (v := -1) hz dX8_put_52 rfl ?_
          exact r_iret hz hq dX8_put_53 (Nat.le_of_ble_eq_true rfl) (Nat.le_of_ble_eq_true rfl)
        · refine r_aload_n hz dX8_put_35 0 rfl ?_
          refine r_getR (j := 17) cl8 hz dX8_put_36 (by decide) wm_5_73 rfl (fun q8 => ?_)
          refine r_sipush (v := 1206) hz dX8_put_39 rfl ?_
          refine r_iald hz dX8_put_42 ?_
          refine r_aload_n hz dX8_put_43 0 rfl ?_
          refine r_iload_n hz dX8_put_44 1 rfl ?_
          refine r_iconst (v := 3) hz dX8_put_45 rfl ?_
          refine r_callVi (As := fun _ => [.int p1, .int (3 : Int32)]) cl8 hz (fun _ _ h => t_X8_loanOf _ _ _ _ _ _ h) cal_X8_loanOf dX8_put_46 wm_6_68 wm_6_70 wm_p_66 rfl rfl (Nat.le_of_ble_eq_true rfl) ⟨(Nat.le_of_ble_eq_true rfl), (Nat.le_of_ble_eq_true rfl)⟩ ⟨(Nat.le_of_ble_eq_true rfl), (Nat.le_of_ble_eq_true rfl)⟩ (fun v10 M9 => ?_)
          refine r_icmp_lt (tgt := 54) hz dX8_put_49 rfl ?_ ?_
          · refine r_aload_n hz dX8_put_54 0 rfl ?_
            refine r_callVv (As := fun _ => []) cl8 hz (fun _ _ h => t_X8_keeps _ _ _ _ h) cal_X8_keeps dX8_put_55 wm_6_125 wm_6_127 wm_p_72 rfl rfl (Nat.le_of_ble_eq_true rfl) ⟨(Nat.le_of_ble_eq_true rfl), (Nat.le_of_ble_eq_true rfl)⟩ ⟨(Nat.le_of_ble_eq_true rfl), (Nat.le_of_ble_eq_true rfl)⟩ (fun _ M11 => ?_)
            refine r_aload_n hz dX8_put_58 0 rfl ?_
            refine r_getR (j := 17) cl8 hz dX8_put_59 (by decide) wm_5_73 rfl (fun q12 => ?_)
            refine r_sipush (v := 1211) hz dX8_put_62 rfl ?_
            refine r_iload_n hz dX8_put_65 1 rfl ?_
            refine r_iadd hz dX8_put_66 ?_
            refine r_dup2 hz dX8_put_67 rfl rfl ?_
            refine r_iald hz dX8_put_68 ?_
            refine r_iload_n hz dX8_put_69 2 rfl ?_
            refine r_iadd hz dX8_put_70 ?_
            refine r_iast hz dX8_put_71 ?_
            refine r_nmM (fun M13 => ?_)
            refine r_aload_n hz dX8_put_72 0 rfl ?_
            refine r_getR (j := 17) cl8 hz dX8_put_73 (by decide) wm_5_73 rfl (fun q14 => ?_)
            refine r_sipush (v := 1211) hz dX8_put_76 rfl ?_
            refine r_iload_n hz dX8_put_79 1 rfl ?_
            refine r_iadd hz dX8_put_80 ?_
            refine r_iald hz dX8_put_81 ?_
            exact r_iret hz hq dX8_put_82 (Nat.le_of_ble_eq_true rfl) (Nat.le_of_ble_eq_true rfl)
          · refine r_iconst (v := -1) hz dX8_put_52 rfl ?_
            exact r_iret hz hq dX8_put_53 (Nat.le_of_ble_eq_true rfl) (Nat.le_of_ble_eq_true rfl)
  exact key x M' h ⟨rfl, rfl⟩
theorem dX8_isToCome_0 : decode cX8_isToCome 0 = .ok (.aload_n 0, 1) := by decide +kernel
theorem dX8_isToCome_1 : decode cX8_isToCome 1 = .ok (.iload_n 1, 1) := by decide +kernel
theorem dX8_isToCome_2 : decode cX8_isToCome 2 = .ok (.iload_n 2, 1) := by decide +kernel
theorem dX8_isToCome_3 : decode cX8_isToCome 3 = .ok (.invokevirtual 252, 3) := by decide +kernel
theorem dX8_isToCome_6 : decode cX8_isToCome 6 = .ok (.ifCond .eq 19, 3) := by decide +kernel
theorem dX8_isToCome_9 : decode cX8_isToCome 9 = .ok (.iload_n 2, 1) := by decide +kernel
theorem dX8_isToCome_10 : decode cX8_isToCome 10 = .ok (.aload_n 0, 1) := by decide +kernel
theorem dX8_isToCome_11 : decode cX8_isToCome 11 = .ok (.getfield 20, 3) := by decide +kernel
theorem dX8_isToCome_14 : decode cX8_isToCome 14 = .ok (.sipush 1206, 3) := by decide +kernel
theorem dX8_isToCome_17 : decode cX8_isToCome 17 = .ok (.iaload, 1) := by decide +kernel
theorem dX8_isToCome_18 : decode cX8_isToCome 18 = .ok (.if_icmp .le 7, 3) := by decide +kernel
theorem dX8_isToCome_21 : decode cX8_isToCome 21 = .ok (.iconst 1, 1) := by decide +kernel
theorem dX8_isToCome_22 : decode cX8_isToCome 22 = .ok (.goto 4, 3) := by decide +kernel
theorem dX8_isToCome_25 : decode cX8_isToCome 25 = .ok (.iconst 0, 1) := by decide +kernel
theorem dX8_isToCome_26 : decode cX8_isToCome 26 = .ok (.ireturn, 1) := by decide +kernel
abbrev rX8_isToCome : Room := { frames := 3, cells := 0, slots := 0, locals := 68 }
theorem cal_X8_isToCome : CalOk yX8_isToCome cX8_isToCome 3 (some .boolean) 2 := ⟨wm_6_189, wm_1_9, by decide, by decide, by decide +kernel⟩
def f_X8_isToCome (p0 : Nat) (p1 : Int32) (p2 : Int32) (M : Mm) : Option (Int32 × Mm) :=
  ck (gK M p0 = 8) (bd (f_X8_isYear p0 p1 p2 M) fun v2 M1 =>
  (if v2 = 0 then
    some ((0 : Int32), M1)
  else
    ck (gK M1 p0 = 8) (bR (gR M1 p0 17) fun q3 => ck (gK M1 q3 = 10 ∧ inb (1206 : Int32) (gN M1 q3)) ((if p2 ≤ (gI M1 q3 ((1206 : Int32)).toNatClampNeg) then
      some ((0 : Int32), M1)
    else
      some ((1 : Int32), M1))))))
set_option maxRecDepth 20000 in
set_option maxHeartbeats 4000000 in
theorem t_X8_isToCome (p0 : Nat) (p1 : Int32) (p2 : Int32) (M : Mm) (x : Int32) (M' : Mm) (h : f_X8_isToCome p0 p1 p2 M = some (x, M')) : Ctr yX8_isToCome cX8_isToCome 3 (some .boolean) rX8_isToCome (fun _ => [.ref p0, .int p1, .int p2]) M (zI x) M' := by
  refine ctr_of (plainFor_of_name (by decide)) (fun _ => Nat.le_of_ble_eq_true rfl) (fun z hz hin hq => ?_)
  have key : Sim z 0 [(0, .ref p0), (1, .int p1), (2, .int p2)] [] M 0 0 (f_X8_isToCome p0 p1 p2 M) (fun a b => a = x ∧ b = M') := by
    have hq : Ret z zI (fun a b => a = x ∧ b = M') := fun a b e => by rw [e.1, e.2]; exact hq
    unfold f_X8_isToCome
    refine r_aload_n hz dX8_isToCome_0 0 rfl ?_
    refine r_iload_n hz dX8_isToCome_1 1 rfl ?_
    refine r_iload_n hz dX8_isToCome_2 2 rfl ?_
    refine r_callVi (As := fun _ => [.int p1, .int p2]) cl8 hz (fun _ _ h => t_X8_isYear _ _ _ _ _ _ h) cal_X8_isYear dX8_isToCome_3 wm_6_113 wm_6_115 wm_p_70 rfl rfl (Nat.le_of_ble_eq_true rfl) ⟨(Nat.le_of_ble_eq_true rfl), (Nat.le_of_ble_eq_true rfl)⟩ ⟨(Nat.le_of_ble_eq_true rfl), (Nat.le_of_ble_eq_true rfl)⟩ (fun v2 M1 => ?_)
    refine r_if_eq (tgt := 25) hz dX8_isToCome_6 rfl ?_ ?_
    · refine r_iconst (v := 0) hz dX8_isToCome_25 rfl ?_
      exact r_zret hz hq dX8_isToCome_26 (Or.inl rfl) (Nat.le_of_ble_eq_true rfl) (Nat.le_of_ble_eq_true rfl)
    · refine r_iload_n hz dX8_isToCome_9 2 rfl ?_
      refine r_aload_n hz dX8_isToCome_10 0 rfl ?_
      refine r_getR (j := 17) cl8 hz dX8_isToCome_11 (by decide) wm_5_73 rfl (fun q3 => ?_)
      refine r_sipush (v := 1206) hz dX8_isToCome_14 rfl ?_
      refine r_iald hz dX8_isToCome_17 ?_
      refine r_icmp_le (tgt := 25) hz dX8_isToCome_18 rfl ?_ ?_
      · refine r_iconst (v := 0) hz dX8_isToCome_25 rfl ?_
        exact r_zret hz hq dX8_isToCome_26 (Or.inl rfl) (Nat.le_of_ble_eq_true rfl) (Nat.le_of_ble_eq_true rfl)
      · refine r_iconst (v := 1) hz dX8_isToCome_21 rfl ?_
        refine r_goto (tgt := 26) hz dX8_isToCome_22 rfl ?_
        exact r_zret hz hq dX8_isToCome_26 (Or.inr rfl) (Nat.le_of_ble_eq_true rfl) (Nat.le_of_ble_eq_true rfl)
  exact key x M' h ⟨rfl, rfl⟩
theorem dX8_priced_0 : decode cX8_priced 0 = .ok (.aload_n 0, 1) := by decide +kernel
theorem dX8_priced_1 : decode cX8_priced 1 = .ok (.iconst 0, 1) := by decide +kernel
theorem dX8_priced_2 : decode cX8_priced 2 = .ok (.putfield 46, 3) := by decide +kernel
theorem dX8_priced_5 : decode cX8_priced 5 = .ok (.aload_n 0, 1) := by decide +kernel
theorem dX8_priced_6 : decode cX8_priced 6 = .ok (.iload_n 1, 1) := by decide +kernel
theorem dX8_priced_7 : decode cX8_priced 7 = .ok (.iload_n 2, 1) := by decide +kernel
theorem dX8_priced_8 : decode cX8_priced 8 = .ok (.invokevirtual 317, 3) := by decide +kernel
theorem dX8_priced_11 : decode cX8_priced 11 = .ok (.ifCond .eq 15, 3) := by decide +kernel
theorem dX8_priced_14 : decode cX8_priced 14 = .ok (.iload_n 3, 1) := by decide +kernel
theorem dX8_priced_15 : decode cX8_priced 15 = .ok (.i2l, 1) := by decide +kernel
theorem dX8_priced_16 : decode cX8_priced 16 = .ok (.lconst 1, 1) := by decide +kernel
theorem dX8_priced_17 : decode cX8_priced 17 = .ok (.ldc2_w 320, 3) := by decide +kernel
theorem dX8_priced_20 : decode cX8_priced 20 = .ok (.invokestatic 83, 3) := by decide +kernel
theorem dX8_priced_23 : decode cX8_priced 23 = .ok (.ifCond .ne 5, 3) := by decide +kernel
theorem dX8_priced_26 : decode cX8_priced 26 = .ok (.iconst (-1), 1) := by decide +kernel
theorem dX8_priced_27 : decode cX8_priced 27 = .ok (.ireturn, 1) := by decide +kernel
theorem dX8_priced_28 : decode cX8_priced 28 = .ok (.aload_n 0, 1) := by decide +kernel
theorem dX8_priced_29 : decode cX8_priced 29 = .ok (.invokevirtual 302, 3) := by decide +kernel
theorem dX8_priced_32 : decode cX8_priced 32 = .ok (.aload_n 0, 1) := by decide +kernel
theorem dX8_priced_33 : decode cX8_priced 33 = .ok (.iload_n 1, 1) := by decide +kernel
theorem dX8_priced_34 : decode cX8_priced 34 = .ok (.iload_n 2, 1) := by decide +kernel
theorem dX8_priced_35 : decode cX8_priced 35 = .ok (.invokevirtual 255, 3) := by decide +kernel
theorem dX8_priced_38 : decode cX8_priced 38 = .ok (.istore 4, 2) := by decide +kernel
theorem dX8_priced_40 : decode cX8_priced 40 = .ok (.aload_n 0, 1) := by decide +kernel
theorem dX8_priced_41 : decode cX8_priced 41 = .ok (.getfield 20, 3) := by decide +kernel
theorem dX8_priced_44 : decode cX8_priced 44 = .ok (.sipush 1215, 3) := by decide +kernel
theorem dX8_priced_47 : decode cX8_priced 47 = .ok (.bipush 21, 2) := by decide +kernel
theorem dX8_priced_49 : decode cX8_priced 49 = .ok (.iload_n 1, 1) := by decide +kernel
theorem dX8_priced_50 : decode cX8_priced 50 = .ok (.imul, 1) := by decide +kernel
theorem dX8_priced_51 : decode cX8_priced 51 = .ok (.iadd, 1) := by decide +kernel
theorem dX8_priced_52 : decode cX8_priced 52 = .ok (.iload_n 2, 1) := by decide +kernel
theorem dX8_priced_53 : decode cX8_priced 53 = .ok (.iadd, 1) := by decide +kernel
theorem dX8_priced_54 : decode cX8_priced 54 = .ok (.iload_n 3, 1) := by decide +kernel
theorem dX8_priced_55 : decode cX8_priced 55 = .ok (.iastore, 1) := by decide +kernel
theorem dX8_priced_56 : decode cX8_priced 56 = .ok (.iload 4, 2) := by decide +kernel
theorem dX8_priced_58 : decode cX8_priced 58 = .ok (.ireturn, 1) := by decide +kernel
abbrev rX8_priced : Room := { frames := 4, cells := 0, slots := 0, locals := 90 }
theorem cal_X8_priced : CalOk yX8_priced cX8_priced 5 (some .int) 3 := ⟨wm_6_185, wm_1_9, by decide, by decide, by decide +kernel⟩
def f_X8_priced (p0 : Nat) (p1 : Int32) (p2 : Int32) (p3 : Int32) (M : Mm) : Option (Int32 × Mm) :=
  ck (gK M p0 = 8) (nm (sI M p0 0 (0 : Int32)) fun M1 =>
  ck (gK M1 p0 = 8) (bd (f_X8_isToCome p0 p1 p2 M1) fun v3 M2 =>
  (if v3 = 0 then
    some ((-1 : Int32), M2)
  else
    bd (f_X8_within (p3).toInt64 (1 : Int64) (999 : Int64) M2) fun v5 M4 =>
    (if ¬ v5 = 0 then
      ck (gK M4 p0 = 8) (bd (f_X8_keeps p0 M4) fun _ M6 =>
      ck (gK M6 p0 = 8) (bd (f_X8_priceOf p0 p1 p2 M6) fun v8 M7 =>
      ck (gK M7 p0 = 8) (bR (gR M7 p0 17) fun q9 => ck (gK M7 q9 = 10 ∧ inb (((1215 : Int32) + ((21 : Int32) * p1)) + p2) (gN M7 q9)) (nm (sI M7 q9 ((((1215 : Int32) + ((21 : Int32) * p1)) + p2)).toNatClampNeg p3) fun M10 =>
      some (v8, M10)))))
    else
      some ((-1 : Int32), M4)))))
set_option maxRecDepth 20000 in
set_option maxHeartbeats 4000000 in
theorem t_X8_priced (p0 : Nat) (p1 : Int32) (p2 : Int32) (p3 : Int32) (M : Mm) (x : Int32) (M' : Mm) (h : f_X8_priced p0 p1 p2 p3 M = some (x, M')) : Ctr yX8_priced cX8_priced 5 (some .int) rX8_priced (fun _ => [.ref p0, .int p1, .int p2, .int p3]) M (zI x) M' := by
  refine ctr_of (plainFor_of_name (by decide)) (fun _ => Nat.le_of_ble_eq_true rfl) (fun z hz hin hq => ?_)
  have key : Sim z 0 [(0, .ref p0), (1, .int p1), (2, .int p2), (3, .int p3)] [] M 0 0 (f_X8_priced p0 p1 p2 p3 M) (fun a b => a = x ∧ b = M') := by
    have hq : Ret z zI (fun a b => a = x ∧ b = M') := fun a b e => by rw [e.1, e.2]; exact hq
    unfold f_X8_priced
    refine r_aload_n hz dX8_priced_0 0 rfl ?_
    refine r_iconst (v := 0) hz dX8_priced_1 rfl ?_
    refine r_putI (j := 0) cl8 hz dX8_priced_2 (by decide) wm_5_56 (Or.inl rfl) rfl rfl rfl ?_
    refine r_nmM (fun M1 => ?_)
    refine r_aload_n hz dX8_priced_5 0 rfl ?_
    refine r_iload_n hz dX8_priced_6 1 rfl ?_
    refine r_iload_n hz dX8_priced_7 2 rfl ?_
    refine r_callVi (As := fun _ => [.int p1, .int p2]) cl8 hz (fun _ _ h => t_X8_isToCome _ _ _ _ _ _ h) cal_X8_isToCome dX8_priced_8 wm_6_186 wm_6_188 wm_p_81 rfl rfl (Nat.le_of_ble_eq_true rfl) ⟨(Nat.le_of_ble_eq_true rfl), (Nat.le_of_ble_eq_true rfl)⟩ ⟨(Nat.le_of_ble_eq_true rfl), (Nat.le_of_ble_eq_true rfl)⟩ (fun v3 M2 => ?_)
    refine r_if_eq (tgt := 26) hz dX8_priced_11 rfl ?_ ?_
    · refine r_iconst (v := -1) hz dX8_priced_26 rfl ?_
      exact r_iret hz hq dX8_priced_27 (Nat.le_of_ble_eq_true rfl) (Nat.le_of_ble_eq_true rfl)
    · refine r_iload_n hz dX8_priced_14 3 rfl ?_
      refine r_i2l hz dX8_priced_15 ?_
      refine r_lconst (v := 1) hz dX8_priced_16 rfl ?_
      refine r_ldc2 (v := 999) hz dX8_priced_17 wm_6_190 ?_
      refine r_callSi (As := fun _ => [.long (p3).toInt64, .long (1 : Int64), .long (999 : Int64)]) hz (fun _ _ h => t_X8_within _ _ _ _ _ _ h) cal_X8_within dX8_priced_20 wm_5_175 wm_5_176 rfl rfl (Nat.le_of_ble_eq_true rfl) ⟨(Nat.le_of_ble_eq_true rfl), (Nat.le_of_ble_eq_true rfl)⟩ ⟨(Nat.le_of_ble_eq_true rfl), (Nat.le_of_ble_eq_true rfl)⟩ (fun v5 M4 => ?_)
      refine r_if_ne (tgt := 28) hz dX8_priced_23 rfl ?_ ?_
      · refine r_aload_n hz dX8_priced_28 0 rfl ?_
        refine r_callVv (As := fun _ => []) cl8 hz (fun _ _ h => t_X8_keeps _ _ _ _ h) cal_X8_keeps dX8_priced_29 wm_6_125 wm_6_127 wm_p_72 rfl rfl (Nat.le_of_ble_eq_true rfl) ⟨(Nat.le_of_ble_eq_true rfl), (Nat.le_of_ble_eq_true rfl)⟩ ⟨(Nat.le_of_ble_eq_true rfl), (Nat.le_of_ble_eq_true rfl)⟩ (fun _ M6 => ?_)
        refine r_aload_n hz dX8_priced_32 0 rfl ?_
        refine r_iload_n hz dX8_priced_33 1 rfl ?_
        refine r_iload_n hz dX8_priced_34 2 rfl ?_
        refine r_callVi (As := fun _ => [.int p1, .int p2]) cl8 hz (fun _ _ h => t_X8_priceOf _ _ _ _ _ _ h) cal_X8_priceOf dX8_priced_35 wm_6_117 wm_6_119 wm_p_71 rfl rfl (Nat.le_of_ble_eq_true rfl) ⟨(Nat.le_of_ble_eq_true rfl), (Nat.le_of_ble_eq_true rfl)⟩ ⟨(Nat.le_of_ble_eq_true rfl), (Nat.le_of_ble_eq_true rfl)⟩ (fun v8 M7 => ?_)
        refine r_istore (lv' := [(4, .int v8), (0, .ref p0), (1, .int p1), (2, .int p2), (3, .int p3)]) hz dX8_priced_38 (by decide) rfl ?_
        refine r_aload_n hz dX8_priced_40 1 rfl ?_
        refine r_getR (j := 17) cl8 hz dX8_priced_41 (by decide) wm_5_73 rfl (fun q9 => ?_)
        refine r_sipush (v := 1215) hz dX8_priced_44 rfl ?_
        refine r_bipush (v := 21) hz dX8_priced_47 rfl ?_
        refine r_iload_n hz dX8_priced_49 2 rfl ?_
        refine r_imul hz dX8_priced_50 ?_
        refine r_iadd hz dX8_priced_51 ?_
        refine r_iload_n hz dX8_priced_52 3 rfl ?_
        refine r_iadd hz dX8_priced_53 ?_
        refine r_iload_n hz dX8_priced_54 4 rfl ?_
        refine r_iast hz dX8_priced_55 ?_
        refine r_nmM (fun M10 => ?_)
        refine r_iload hz dX8_priced_56 0 rfl ?_
        exact r_iret hz hq dX8_priced_58 (Nat.le_of_ble_eq_true rfl) (Nat.le_of_ble_eq_true rfl)
      · refine r_iconst (v := -1) hz dX8_priced_26 rfl ?_
        exact r_iret hz hq dX8_priced_27 (Nat.le_of_ble_eq_true rfl) (Nat.le_of_ble_eq_true rfl)
  exact key x M' h ⟨rfl, rfl⟩
theorem dX8_isWheel_0 : decode cX8_isWheel 0 = .ok (.iload_n 0, 1) := by decide +kernel
theorem dX8_isWheel_1 : decode cX8_isWheel 1 = .ok (.i2l, 1) := by decide +kernel
theorem dX8_isWheel_2 : decode cX8_isWheel 2 = .ok (.lconst 1, 1) := by decide +kernel
theorem dX8_isWheel_3 : decode cX8_isWheel 3 = .ok (.ldc2_w 322, 3) := by decide +kernel
theorem dX8_isWheel_6 : decode cX8_isWheel 6 = .ok (.invokestatic 83, 3) := by decide +kernel
theorem dX8_isWheel_9 : decode cX8_isWheel 9 = .ok (.ireturn, 1) := by decide +kernel
abbrev rX8_isWheel : Room := { frames := 1, cells := 0, slots := 0, locals := 25 }
theorem cal_X8_isWheel : CalOk yX8_isWheel cX8_isWheel 1 (some .boolean) 1 := ⟨wm_6_197, wm_1_9, by decide, by decide, by decide +kernel⟩
def f_X8_isWheel (p0 : Int32) (M : Mm) : Option (Int32 × Mm) :=
  bd (f_X8_within (p0).toInt64 (1 : Int64) (2147483646 : Int64) M) fun v2 M1 =>
  ck (v2 = 0 ∨ v2 = 1) (some (v2, M1))
set_option maxRecDepth 20000 in
set_option maxHeartbeats 4000000 in
theorem t_X8_isWheel (p0 : Int32) (M : Mm) (x : Int32) (M' : Mm) (h : f_X8_isWheel p0 M = some (x, M')) : Ctr yX8_isWheel cX8_isWheel 1 (some .boolean) rX8_isWheel (fun _ => [.int p0]) M (zI x) M' := by
  refine ctr_of (plainFor_of_name (by decide)) (fun _ => Nat.le_of_ble_eq_true rfl) (fun z hz hin hq => ?_)
  have key : Sim z 0 [(0, .int p0)] [] M 0 0 (f_X8_isWheel p0 M) (fun a b => a = x ∧ b = M') := by
    have hq : Ret z zI (fun a b => a = x ∧ b = M') := fun a b e => by rw [e.1, e.2]; exact hq
    unfold f_X8_isWheel
    refine r_iload_n hz dX8_isWheel_0 0 rfl ?_
    refine r_i2l hz dX8_isWheel_1 ?_
    refine r_lconst (v := 1) hz dX8_isWheel_2 rfl ?_
    refine r_ldc2 (v := 2147483646) hz dX8_isWheel_3 wm_6_198 ?_
    refine r_callSi (As := fun _ => [.long (p0).toInt64, .long (1 : Int64), .long (2147483646 : Int64)]) hz (fun _ _ h => t_X8_within _ _ _ _ _ _ h) cal_X8_within dX8_isWheel_6 wm_5_175 wm_5_176 rfl rfl (Nat.le_of_ble_eq_true rfl) ⟨(Nat.le_of_ble_eq_true rfl), (Nat.le_of_ble_eq_true rfl)⟩ ⟨(Nat.le_of_ble_eq_true rfl), (Nat.le_of_ble_eq_true rfl)⟩ (fun v2 M1 => ?_)
    refine r_ck (fun h3 => ?_)
    exact r_zret hz hq dX8_isWheel_9 h3 (Nat.le_of_ble_eq_true rfl) (Nat.le_of_ble_eq_true rfl)
  exact key x M' h ⟨rfl, rfl⟩
theorem dX8_wheel_0 : decode cX8_wheel 0 = .ok (.aload_n 0, 1) := by decide +kernel
theorem dX8_wheel_1 : decode cX8_wheel 1 = .ok (.iconst 0, 1) := by decide +kernel
theorem dX8_wheel_2 : decode cX8_wheel 2 = .ok (.putfield 46, 3) := by decide +kernel
theorem dX8_wheel_5 : decode cX8_wheel 5 = .ok (.aload_n 0, 1) := by decide +kernel
theorem dX8_wheel_6 : decode cX8_wheel 6 = .ok (.iload_n 1, 1) := by decide +kernel
theorem dX8_wheel_7 : decode cX8_wheel 7 = .ok (.invokevirtual 222, 3) := by decide +kernel
theorem dX8_wheel_10 : decode cX8_wheel 10 = .ok (.ifCond .eq 10, 3) := by decide +kernel
theorem dX8_wheel_13 : decode cX8_wheel 13 = .ok (.iload_n 2, 1) := by decide +kernel
theorem dX8_wheel_14 : decode cX8_wheel 14 = .ok (.invokestatic 324, 3) := by decide +kernel
theorem dX8_wheel_17 : decode cX8_wheel 17 = .ok (.ifCond .ne 5, 3) := by decide +kernel
theorem dX8_wheel_20 : decode cX8_wheel 20 = .ok (.iconst (-1), 1) := by decide +kernel
theorem dX8_wheel_21 : decode cX8_wheel 21 = .ok (.ireturn, 1) := by decide +kernel
theorem dX8_wheel_22 : decode cX8_wheel 22 = .ok (.aload_n 0, 1) := by decide +kernel
theorem dX8_wheel_23 : decode cX8_wheel 23 = .ok (.invokevirtual 302, 3) := by decide +kernel
theorem dX8_wheel_26 : decode cX8_wheel 26 = .ok (.aload_n 0, 1) := by decide +kernel
theorem dX8_wheel_27 : decode cX8_wheel 27 = .ok (.getfield 20, 3) := by decide +kernel
theorem dX8_wheel_30 : decode cX8_wheel 30 = .ok (.sipush 1207, 3) := by decide +kernel
theorem dX8_wheel_33 : decode cX8_wheel 33 = .ok (.iload_n 1, 1) := by decide +kernel
theorem dX8_wheel_34 : decode cX8_wheel 34 = .ok (.iadd, 1) := by decide +kernel
theorem dX8_wheel_35 : decode cX8_wheel 35 = .ok (.iaload, 1) := by decide +kernel
theorem dX8_wheel_36 : decode cX8_wheel 36 = .ok (.istore_n 3, 1) := by decide +kernel
theorem dX8_wheel_37 : decode cX8_wheel 37 = .ok (.aload_n 0, 1) := by decide +kernel
theorem dX8_wheel_38 : decode cX8_wheel 38 = .ok (.getfield 20, 3) := by decide +kernel
theorem dX8_wheel_41 : decode cX8_wheel 41 = .ok (.sipush 1207, 3) := by decide +kernel
theorem dX8_wheel_44 : decode cX8_wheel 44 = .ok (.iload_n 1, 1) := by decide +kernel
theorem dX8_wheel_45 : decode cX8_wheel 45 = .ok (.iadd, 1) := by decide +kernel
theorem dX8_wheel_46 : decode cX8_wheel 46 = .ok (.iload_n 2, 1) := by decide +kernel
theorem dX8_wheel_47 : decode cX8_wheel 47 = .ok (.iastore, 1) := by decide +kernel
theorem dX8_wheel_48 : decode cX8_wheel 48 = .ok (.iload_n 3, 1) := by decide +kernel
theorem dX8_wheel_49 : decode cX8_wheel 49 = .ok (.ireturn, 1) := by decide +kernel
abbrev rX8_wheel : Room := { frames := 2, cells := 0, slots := 0, locals := 46 }
theorem cal_X8_wheel : CalOk yX8_wheel cX8_wheel 4 (some .int) 2 := ⟨wm_6_194, wm_1_9, by decide, by decide, by decide +kernel⟩
def f_X8_wheel (p0 : Nat) (p1 : Int32) (p2 : Int32) (M : Mm) : Option (Int32 × Mm) :=
  ck (gK M p0 = 8) (nm (sI M p0 0 (0 : Int32)) fun M1 =>
  ck (gK M1 p0 = 8) (bd (f_X8_isLoan p0 p1 M1) fun v3 M2 =>
  (if v3 = 0 then
    some ((-1 : Int32), M2)
  else
    bd (f_X8_isWheel p2 M2) fun v5 M4 =>
    (if ¬ v5 = 0 then
      ck (gK M4 p0 = 8) (bd (f_X8_keeps p0 M4) fun _ M6 =>
      ck (gK M6 p0 = 8) (bR (gR M6 p0 17) fun q7 => ck (gK M6 q7 = 10 ∧ inb ((1207 : Int32) + p1) (gN M6 q7)) (nm (gI M6 q7 (((1207 : Int32) + p1)).toNatClampNeg) fun v8 =>
      ck (gK M6 p0 = 8) (bR (gR M6 p0 17) fun q9 => ck (gK M6 q9 = 10 ∧ inb ((1207 : Int32) + p1) (gN M6 q9)) (nm (sI M6 q9 (((1207 : Int32) + p1)).toNatClampNeg p2) fun M10 =>
      some (v8, M10))))))
    else
      some ((-1 : Int32), M4)))))
set_option maxRecDepth 20000 in
set_option maxHeartbeats 4000000 in
theorem t_X8_wheel (p0 : Nat) (p1 : Int32) (p2 : Int32) (M : Mm) (x : Int32) (M' : Mm) (h : f_X8_wheel p0 p1 p2 M = some (x, M')) : Ctr yX8_wheel cX8_wheel 4 (some .int) rX8_wheel (fun _ => [.ref p0, .int p1, .int p2]) M (zI x) M' := by
  refine ctr_of (plainFor_of_name (by decide)) (fun _ => Nat.le_of_ble_eq_true rfl) (fun z hz hin hq => ?_)
  have key : Sim z 0 [(0, .ref p0), (1, .int p1), (2, .int p2)] [] M 0 0 (f_X8_wheel p0 p1 p2 M) (fun a b => a = x ∧ b = M') := by
    have hq : Ret z zI (fun a b => a = x ∧ b = M') := fun a b e => by rw [e.1, e.2]; exact hq
    unfold f_X8_wheel
    refine r_aload_n hz dX8_wheel_0 0 rfl ?_
    refine r_iconst (v := 0) hz dX8_wheel_1 rfl ?_
    refine r_putI (j := 0) cl8 hz dX8_wheel_2 (by decide) wm_5_56 (Or.inl rfl) rfl rfl rfl ?_
    refine r_nmM (fun M1 => ?_)
    refine r_aload_n hz dX8_wheel_5 0 rfl ?_
    refine r_iload_n hz dX8_wheel_6 1 rfl ?_
    refine r_callVi (As := fun _ => [.int p1]) cl8 hz (fun _ _ h => t_X8_isLoan _ _ _ _ _ h) cal_X8_isLoan dX8_wheel_7 wm_6_79 wm_6_81 wm_p_67 rfl rfl (Nat.le_of_ble_eq_true rfl) ⟨(Nat.le_of_ble_eq_true rfl), (Nat.le_of_ble_eq_true rfl)⟩ ⟨(Nat.le_of_ble_eq_true rfl), (Nat.le_of_ble_eq_true rfl)⟩ (fun v3 M2 => ?_)
    refine r_if_eq (tgt := 20) hz dX8_wheel_10 rfl ?_ ?_
    · refine r_iconst (v := -1) hz dX8_wheel_20 rfl ?_
      exact r_iret hz hq dX8_wheel_21 (Nat.le_of_ble_eq_true rfl) (Nat.le_of_ble_eq_true rfl)
    · refine r_iload_n hz dX8_wheel_13 2 rfl ?_
      refine r_callSi (As := fun _ => [.int p2]) hz (fun _ _ h => t_X8_isWheel _ _ _ _ h) cal_X8_isWheel dX8_wheel_14 wm_6_195 wm_6_196 rfl rfl (Nat.le_of_ble_eq_true rfl) ⟨(Nat.le_of_ble_eq_true rfl), (Nat.le_of_ble_eq_true rfl)⟩ ⟨(Nat.le_of_ble_eq_true rfl), (Nat.le_of_ble_eq_true rfl)⟩ (fun v5 M4 => ?_)
      refine r_if_ne (tgt := 22) hz dX8_wheel_17 rfl ?_ ?_
      · refine r_aload_n hz dX8_wheel_22 0 rfl ?_
        refine r_callVv (As := fun _ => []) cl8 hz (fun _ _ h => t_X8_keeps _ _ _ _ h) cal_X8_keeps dX8_wheel_23 wm_6_125 wm_6_127 wm_p_72 rfl rfl (Nat.le_of_ble_eq_true rfl) ⟨(Nat.le_of_ble_eq_true rfl), (Nat.le_of_ble_eq_true rfl)⟩ ⟨(Nat.le_of_ble_eq_true rfl), (Nat.le_of_ble_eq_true rfl)⟩ (fun _ M6 => ?_)
        refine r_aload_n hz dX8_wheel_26 0 rfl ?_
        refine r_getR (j := 17) cl8 hz dX8_wheel_27 (by decide) wm_5_73 rfl (fun q7 => ?_)
        refine r_sipush (v := 1207) hz dX8_wheel_30 rfl ?_
        refine r_iload_n hz dX8_wheel_33 1 rfl ?_
        refine r_iadd hz dX8_wheel_34 ?_
        refine r_iald hz dX8_wheel_35 ?_
        refine r_nmi (fun v8 => ?_)
        refine r_istore_n (lv' := [(3, .int v8), (0, .ref p0), (1, .int p1), (2, .int p2)]) hz dX8_wheel_36 (by decide) rfl ?_
        refine r_aload_n hz dX8_wheel_37 1 rfl ?_
        refine r_getR (j := 17) cl8 hz dX8_wheel_38 (by decide) wm_5_73 rfl (fun q9 => ?_)
        refine r_sipush (v := 1207) hz dX8_wheel_41 rfl ?_
        refine r_iload_n hz dX8_wheel_44 2 rfl ?_
        refine r_iadd hz dX8_wheel_45 ?_
        refine r_iload_n hz dX8_wheel_46 3 rfl ?_
        refine r_iast hz dX8_wheel_47 ?_
        refine r_nmM (fun M10 => ?_)
        refine r_iload_n hz dX8_wheel_48 0 rfl ?_
        exact r_iret hz hq dX8_wheel_49 (Nat.le_of_ble_eq_true rfl) (Nat.le_of_ble_eq_true rfl)
      · refine r_iconst (v := -1) hz dX8_wheel_20 rfl ?_
        exact r_iret hz hq dX8_wheel_21 (Nat.le_of_ble_eq_true rfl) (Nat.le_of_ble_eq_true rfl)
  exact key x M' h ⟨rfl, rfl⟩
theorem dX8_undo_0 : decode cX8_undo 0 = .ok (.aload_n 0, 1) := by decide +kernel
theorem dX8_undo_1 : decode cX8_undo 1 = .ok (.iconst 0, 1) := by decide +kernel
theorem dX8_undo_2 : decode cX8_undo 2 = .ok (.putfield 46, 3) := by decide +kernel
theorem dX8_undo_5 : decode cX8_undo 5 = .ok (.aload_n 0, 1) := by decide +kernel
theorem dX8_undo_6 : decode cX8_undo 6 = .ok (.getfield 219, 3) := by decide +kernel
theorem dX8_undo_9 : decode cX8_undo 9 = .ok (.ifCond .ne 5, 3) := by decide +kernel
theorem dX8_undo_12 : decode cX8_undo 12 = .ok (.iconst (-1), 1) := by decide +kernel
theorem dX8_undo_13 : decode cX8_undo 13 = .ok (.ireturn, 1) := by decide +kernel
theorem dX8_undo_14 : decode cX8_undo 14 = .ok (.aload_n 0, 1) := by decide +kernel
theorem dX8_undo_15 : decode cX8_undo 15 = .ok (.dup, 1) := by decide +kernel
theorem dX8_undo_16 : decode cX8_undo 16 = .ok (.getfield 219, 3) := by decide +kernel
theorem dX8_undo_19 : decode cX8_undo 19 = .ok (.iconst 1, 1) := by decide +kernel
theorem dX8_undo_20 : decode cX8_undo 20 = .ok (.isub, 1) := by decide +kernel
theorem dX8_undo_21 : decode cX8_undo 21 = .ok (.putfield 219, 3) := by decide +kernel
theorem dX8_undo_24 : decode cX8_undo 24 = .ok (.aload_n 0, 1) := by decide +kernel
theorem dX8_undo_25 : decode cX8_undo 25 = .ok (.getfield 26, 3) := by decide +kernel
theorem dX8_undo_28 : decode cX8_undo 28 = .ok (.sipush 1407, 3) := by decide +kernel
theorem dX8_undo_31 : decode cX8_undo 31 = .ok (.aload_n 0, 1) := by decide +kernel
theorem dX8_undo_32 : decode cX8_undo 32 = .ok (.getfield 219, 3) := by decide +kernel
theorem dX8_undo_35 : decode cX8_undo 35 = .ok (.imul, 1) := by decide +kernel
theorem dX8_undo_36 : decode cX8_undo 36 = .ok (.aload_n 0, 1) := by decide +kernel
theorem dX8_undo_37 : decode cX8_undo 37 = .ok (.getfield 20, 3) := by decide +kernel
theorem dX8_undo_40 : decode cX8_undo 40 = .ok (.iconst 0, 1) := by decide +kernel
theorem dX8_undo_41 : decode cX8_undo 41 = .ok (.invokestatic 215, 3) := by decide +kernel
theorem dX8_undo_44 : decode cX8_undo 44 = .ok (.aload_n 0, 1) := by decide +kernel
theorem dX8_undo_45 : decode cX8_undo 45 = .ok (.getfield 219, 3) := by decide +kernel
theorem dX8_undo_48 : decode cX8_undo 48 = .ok (.ireturn, 1) := by decide +kernel
abbrev rX8_undo : Room := { frames := 1, cells := 0, slots := 0, locals := 24 }
theorem cal_X8_undo : CalOk yX8_undo cX8_undo 1 (some .int) 0 := ⟨wm_6_202, wm_1_9, by decide, by decide, by decide +kernel⟩
def f_X8_undo (p0 : Nat) (M : Mm) : Option (Int32 × Mm) :=
  ck (gK M p0 = 8) (nm (sI M p0 0 (0 : Int32)) fun M1 =>
  ck (gK M1 p0 = 8) ((if ¬ (gI M1 p0 23) = 0 then
    ck (gK M1 p0 = 8) (ck (gK M1 p0 = 8) (nm (sI M1 p0 23 ((gI M1 p0 23) - (1 : Int32))) fun M2 =>
    ck (gK M2 p0 = 8) (bR (gR M2 p0 24) fun q3 => ck (gK M2 p0 = 8) (ck (gK M2 p0 = 8) (bR (gR M2 p0 17) fun q4 => bd (f_X8_copies q3 ((1407 : Int32) * (gI M2 p0 23)) q4 (0 : Int32) M2) fun _ M5 =>
    ck (gK M5 p0 = 8) (some ((gI M5 p0 23), M5)))))))
  else
    some ((-1 : Int32), M1))))
set_option maxRecDepth 20000 in
set_option maxHeartbeats 4000000 in
theorem t_X8_undo (p0 : Nat) (M : Mm) (x : Int32) (M' : Mm) (h : f_X8_undo p0 M = some (x, M')) : Ctr yX8_undo cX8_undo 1 (some .int) rX8_undo (fun _ => [.ref p0]) M (zI x) M' := by
  refine ctr_of (plainFor_of_name (by decide)) (fun _ => Nat.le_of_ble_eq_true rfl) (fun z hz hin hq => ?_)
  have key : Sim z 0 [(0, .ref p0)] [] M 0 0 (f_X8_undo p0 M) (fun a b => a = x ∧ b = M') := by
    have hq : Ret z zI (fun a b => a = x ∧ b = M') := fun a b e => by rw [e.1, e.2]; exact hq
    unfold f_X8_undo
    refine r_aload_n hz dX8_undo_0 0 rfl ?_
    refine r_iconst (v := 0) hz dX8_undo_1 rfl ?_
    refine r_putI (j := 0) cl8 hz dX8_undo_2 (by decide) wm_5_56 (Or.inl rfl) rfl rfl rfl ?_
    refine r_nmM (fun M1 => ?_)
    refine r_aload_n hz dX8_undo_5 0 rfl ?_
    refine r_getI (j := 23) cl8 hz dX8_undo_6 (by decide) wm_5_79 rfl ?_
    refine r_if_ne (tgt := 14) hz dX8_undo_9 rfl ?_ ?_
    · refine r_aload_n hz dX8_undo_14 0 rfl ?_
      refine r_dup hz dX8_undo_15 rfl ?_
      refine r_getI (j := 23) cl8 hz dX8_undo_16 (by decide) wm_5_79 rfl ?_
      refine r_iconst (v := 1) hz dX8_undo_19 rfl ?_
      refine r_isub hz dX8_undo_20 ?_
      refine r_putI (j := 23) cl8 hz dX8_undo_21 (by decide) wm_5_79 (Or.inl rfl) rfl rfl rfl ?_
      refine r_nmM (fun M2 => ?_)
      refine r_aload_n hz dX8_undo_24 0 rfl ?_
      refine r_getR (j := 24) cl8 hz dX8_undo_25 (by decide) wm_5_80 rfl (fun q3 => ?_)
      refine r_sipush (v := 1407) hz dX8_undo_28 rfl ?_
      refine r_aload_n hz dX8_undo_31 0 rfl ?_
      refine r_getI (j := 23) cl8 hz dX8_undo_32 (by decide) wm_5_79 rfl ?_
      refine r_imul hz dX8_undo_35 ?_
      refine r_aload_n hz dX8_undo_36 0 rfl ?_
      refine r_getR (j := 17) cl8 hz dX8_undo_37 (by decide) wm_5_73 rfl (fun q4 => ?_)
      refine r_iconst (v := 0) hz dX8_undo_40 rfl ?_
      refine r_callSv (As := fun _ => [.ref q3, .int ((1407 : Int32) * (gI M2 p0 23)), .ref q4, .int (0 : Int32)]) hz (fun _ _ h => t_X8_copies _ _ _ _ _ _ _ h) cal_X8_copies dX8_undo_41 wm_6_51 wm_6_52 rfl rfl (Nat.le_of_ble_eq_true rfl) ⟨(Nat.le_of_ble_eq_true rfl), (Nat.le_of_ble_eq_true rfl)⟩ ⟨(Nat.le_of_ble_eq_true rfl), (Nat.le_of_ble_eq_true rfl)⟩ (fun _ M5 => ?_)
      refine r_aload_n hz dX8_undo_44 0 rfl ?_
      refine r_getI (j := 23) cl8 hz dX8_undo_45 (by decide) wm_5_79 rfl ?_
      exact r_iret hz hq dX8_undo_48 (Nat.le_of_ble_eq_true rfl) (Nat.le_of_ble_eq_true rfl)
    · refine r_iconst (v := -1) hz dX8_undo_12 rfl ?_
      exact r_iret hz hq dX8_undo_13 (Nat.le_of_ble_eq_true rfl) (Nat.le_of_ble_eq_true rfl)
  exact key x M' h ⟨rfl, rfl⟩
