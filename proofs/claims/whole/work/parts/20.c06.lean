theorem dX7_lapseOld_0 : decode cX7_lapseOld 0 = .ok (.iconst 1, 1) := by decide +kernel
theorem dX7_lapseOld_1 : decode cX7_lapseOld 1 = .ok (.istore_n 2, 1) := by decide +kernel
theorem dX7_lapseOld_2 : decode cX7_lapseOld 2 = .ok (.iload_n 2, 1) := by decide +kernel
theorem dX7_lapseOld_3 : decode cX7_lapseOld 3 = .ok (.aload_n 0, 1) := by decide +kernel
theorem dX7_lapseOld_4 : decode cX7_lapseOld 4 = .ok (.getfield 10, 3) := by decide +kernel
theorem dX7_lapseOld_7 : decode cX7_lapseOld 7 = .ok (.getfield 127, 3) := by decide +kernel
theorem dX7_lapseOld_10 : decode cX7_lapseOld 10 = .ok (.iload_n 1, 1) := by decide +kernel
theorem dX7_lapseOld_11 : decode cX7_lapseOld 11 = .ok (.iaload, 1) := by decide +kernel
theorem dX7_lapseOld_12 : decode cX7_lapseOld 12 = .ok (.if_icmp .gt 67, 3) := by decide +kernel
theorem dX7_lapseOld_15 : decode cX7_lapseOld 15 = .ok (.iload_n 1, 1) := by decide +kernel
theorem dX7_lapseOld_16 : decode cX7_lapseOld 16 = .ok (.iload_n 2, 1) := by decide +kernel
theorem dX7_lapseOld_17 : decode cX7_lapseOld 17 = .ok (.invokestatic 170, 3) := by decide +kernel
theorem dX7_lapseOld_20 : decode cX7_lapseOld 20 = .ok (.istore_n 3, 1) := by decide +kernel
theorem dX7_lapseOld_21 : decode cX7_lapseOld 21 = .ok (.aload_n 0, 1) := by decide +kernel
theorem dX7_lapseOld_22 : decode cX7_lapseOld 22 = .ok (.getfield 19, 3) := by decide +kernel
theorem dX7_lapseOld_25 : decode cX7_lapseOld 25 = .ok (.getfield 174, 3) := by decide +kernel
theorem dX7_lapseOld_28 : decode cX7_lapseOld 28 = .ok (.iload_n 3, 1) := by decide +kernel
theorem dX7_lapseOld_29 : decode cX7_lapseOld 29 = .ok (.iaload, 1) := by decide +kernel
theorem dX7_lapseOld_30 : decode cX7_lapseOld 30 = .ok (.iconst 1, 1) := by decide +kernel
theorem dX7_lapseOld_31 : decode cX7_lapseOld 31 = .ok (.if_icmp .ne 42, 3) := by decide +kernel
theorem dX7_lapseOld_34 : decode cX7_lapseOld 34 = .ok (.aload_n 0, 1) := by decide +kernel
theorem dX7_lapseOld_35 : decode cX7_lapseOld 35 = .ok (.getfield 19, 3) := by decide +kernel
theorem dX7_lapseOld_38 : decode cX7_lapseOld 38 = .ok (.getfield 102, 3) := by decide +kernel
theorem dX7_lapseOld_41 : decode cX7_lapseOld 41 = .ok (.aload_n 0, 1) := by decide +kernel
theorem dX7_lapseOld_42 : decode cX7_lapseOld 42 = .ok (.getfield 19, 3) := by decide +kernel
theorem dX7_lapseOld_45 : decode cX7_lapseOld 45 = .ok (.getfield 180, 3) := by decide +kernel
theorem dX7_lapseOld_48 : decode cX7_lapseOld 48 = .ok (.iload_n 3, 1) := by decide +kernel
theorem dX7_lapseOld_49 : decode cX7_lapseOld 49 = .ok (.iaload, 1) := by decide +kernel
theorem dX7_lapseOld_50 : decode cX7_lapseOld 50 = .ok (.isub, 1) := by decide +kernel
theorem dX7_lapseOld_51 : decode cX7_lapseOld 51 = .ok (.aload_n 0, 1) := by decide +kernel
theorem dX7_lapseOld_52 : decode cX7_lapseOld 52 = .ok (.getfield 10, 3) := by decide +kernel
theorem dX7_lapseOld_55 : decode cX7_lapseOld 55 = .ok (.getfield 145, 3) := by decide +kernel
theorem dX7_lapseOld_58 : decode cX7_lapseOld 58 = .ok (.iload_n 1, 1) := by decide +kernel
theorem dX7_lapseOld_59 : decode cX7_lapseOld 59 = .ok (.iaload, 1) := by decide +kernel
theorem dX7_lapseOld_60 : decode cX7_lapseOld 60 = .ok (.if_icmp .lt 13, 3) := by decide +kernel
theorem dX7_lapseOld_63 : decode cX7_lapseOld 63 = .ok (.aload_n 0, 1) := by decide +kernel
theorem dX7_lapseOld_64 : decode cX7_lapseOld 64 = .ok (.getfield 19, 3) := by decide +kernel
theorem dX7_lapseOld_67 : decode cX7_lapseOld 67 = .ok (.getfield 174, 3) := by decide +kernel
theorem dX7_lapseOld_70 : decode cX7_lapseOld 70 = .ok (.iload_n 3, 1) := by decide +kernel
theorem dX7_lapseOld_71 : decode cX7_lapseOld 71 = .ok (.iconst 4, 1) := by decide +kernel
theorem dX7_lapseOld_72 : decode cX7_lapseOld 72 = .ok (.iastore, 1) := by decide +kernel
theorem dX7_lapseOld_73 : decode cX7_lapseOld 73 = .ok (.iinc 2 1, 3) := by decide +kernel
theorem dX7_lapseOld_76 : decode cX7_lapseOld 76 = .ok (.goto (-74), 3) := by decide +kernel
theorem dX7_lapseOld_79 : decode cX7_lapseOld 79 = .ok (.return_, 1) := by decide +kernel
abbrev rX7_lapseOld : Room := { frames := 1, cells := 0, slots := 0, locals := 21 }
theorem cal_X7_lapseOld : CalOk yX7_lapseOld cX7_lapseOld 4 none 1 := ⟨wm_4_27, wm_1_1, by decide, by decide, by decide +kernel⟩
def f_X7_lapseOld_2 : Nat → Nat → Int32 → Int32 → Mm → Option (Unit × Mm)
  | 0, _, _, _, _ => none
  | n + 1, x0, x1, x2, M =>
    ck (gK M x0 = 7) (bR (gR M x0 0) fun q1 => ck (gK M q1 = 6) (bR (gR M q1 6) fun q2 => ck (gK M q2 = 10 ∧ inb x1 (gN M q2)) ((if (gI M q2 (x1).toNatClampNeg) < x2 then
      some ((), M)
    else
      bd (f_X7_spotOf x1 x2 M) fun v4 M3 =>
      ck (gK M3 x0 = 7) (bR (gR M3 x0 1) fun q5 => ck (gK M3 q5 = 5) (bR (gR M3 q5 6) fun q6 => ck (gK M3 q6 = 10 ∧ inb v4 (gN M3 q6)) ((if ¬ (gI M3 q6 (v4).toNatClampNeg) = (1 : Int32) then
        f_X7_lapseOld_2 n x0 x1 (x2 + (1 : Int32)) M3
      else
        ck (gK M3 x0 = 7) (bR (gR M3 x0 1) fun q8 => ck (gK M3 q8 = 5) (ck (gK M3 x0 = 7) (bR (gR M3 x0 1) fun q9 => ck (gK M3 q9 = 5) (bR (gR M3 q9 8) fun q10 => ck (gK M3 q10 = 10 ∧ inb v4 (gN M3 q10)) (ck (gK M3 x0 = 7) (bR (gR M3 x0 0) fun q11 => ck (gK M3 q11 = 6) (bR (gR M3 q11 12) fun q12 => ck (gK M3 q12 = 10 ∧ inb x1 (gN M3 q12)) ((if ((gI M3 q8 0) - (gI M3 q10 (v4).toNatClampNeg)) < (gI M3 q12 (x1).toNatClampNeg) then
          f_X7_lapseOld_2 n x0 x1 (x2 + (1 : Int32)) M3
        else
          ck (gK M3 x0 = 7) (bR (gR M3 x0 1) fun q14 => ck (gK M3 q14 = 5) (bR (gR M3 q14 6) fun q15 => ck (gK M3 q15 = 10 ∧ inb v4 (gN M3 q15)) (nm (sI M3 q15 (v4).toNatClampNeg (4 : Int32)) fun M16 =>
          f_X7_lapseOld_2 n x0 x1 (x2 + (1 : Int32)) M16))))))))))))))))))))
set_option maxRecDepth 20000 in
set_option maxHeartbeats 4000000 in
theorem s_X7_lapseOld_2 {z : Zt} {K : Unit → Mm → Prop} (hz : Good z RX7 cX7_lapseOld 4 rX7_lapseOld none) (hq : Ret z zU K) : ∀ (n : Nat) (x0 : Nat) (x1 : Int32) (x2 : Int32) (M : Mm), Sim z 2 [(0, .ref x0), (1, .int x1), (2, .int x2)] [] M 0 0 (f_X7_lapseOld_2 n x0 x1 x2 M) K := by
  intro n
  induction n with
  | zero => exact fun _ _ _ _ => r_none
  | succ n ih =>
    intro x0 x1 x2 M
    unfold f_X7_lapseOld_2
    refine r_iload_n hz dX7_lapseOld_2 2 rfl ?_
    refine r_aload_n hz dX7_lapseOld_3 0 rfl ?_
    refine r_getR (j := 0) cl7 hz dX7_lapseOld_4 (by decide) wm_2_104 rfl (fun q1 => ?_)
    refine r_getR (j := 6) cl6 hz dX7_lapseOld_7 (by decide) wm_1_57 rfl (fun q2 => ?_)
    refine r_iload_n hz dX7_lapseOld_10 1 rfl ?_
    refine r_iald hz dX7_lapseOld_11 ?_
    refine r_icmp_gt (tgt := 79) hz dX7_lapseOld_12 rfl ?_ ?_
    · exact r_vret hz hq dX7_lapseOld_79 (Nat.le_of_ble_eq_true rfl) (Nat.le_of_ble_eq_true rfl)
    · refine r_iload_n hz dX7_lapseOld_15 1 rfl ?_
      refine r_iload_n hz dX7_lapseOld_16 2 rfl ?_
      refine r_callSi (As := fun _ => [.int x1, .int x2]) hz (fun _ _ h => t_X7_spotOf _ _ _ _ _ h) cal_X7_spotOf dX7_lapseOld_17 wm_3_165 wm_3_78 rfl rfl (Nat.le_of_ble_eq_true rfl) ⟨(Nat.le_of_ble_eq_true rfl), (Nat.le_of_ble_eq_true rfl)⟩ ⟨(Nat.le_of_ble_eq_true rfl), (Nat.le_of_ble_eq_true rfl)⟩ (fun v4 M3 => ?_)
      refine r_istore_n (lv' := [(3, .int v4), (0, .ref x0), (1, .int x1), (2, .int x2)]) hz dX7_lapseOld_20 (by decide) rfl ?_
      refine r_aload_n hz dX7_lapseOld_21 1 rfl ?_
      refine r_getR (j := 1) cl7 hz dX7_lapseOld_22 (by decide) wm_2_105 rfl (fun q5 => ?_)
      refine r_getR (j := 6) cl5 hz dX7_lapseOld_25 (by decide) wm_1_157 rfl (fun q6 => ?_)
      refine r_iload_n hz dX7_lapseOld_28 0 rfl ?_
      refine r_iald hz dX7_lapseOld_29 ?_
      refine r_iconst (v := 1) hz dX7_lapseOld_30 rfl ?_
      refine r_icmp_ne (tgt := 73) hz dX7_lapseOld_31 rfl ?_ ?_
      · refine r_iinc (v := (x2 + (1 : Int32))) (lv' := [(2, .int (x2 + (1 : Int32))), (3, .int v4), (0, .ref x0), (1, .int x1)]) hz dX7_lapseOld_73 3 rfl rfl (by decide) rfl ?_
        refine r_goto (tgt := 2) hz dX7_lapseOld_76 rfl ?_
        refine r_sub [2, 3, 0] rfl ?_
        exact ih x0 x1 (x2 + (1 : Int32)) M3
      · refine r_aload_n hz dX7_lapseOld_34 1 rfl ?_
        refine r_getR (j := 1) cl7 hz dX7_lapseOld_35 (by decide) wm_2_105 rfl (fun q8 => ?_)
        refine r_getI (j := 0) cl5 hz dX7_lapseOld_38 (by decide) wm_1_142 rfl ?_
        refine r_aload_n hz dX7_lapseOld_41 1 rfl ?_
        refine r_getR (j := 1) cl7 hz dX7_lapseOld_42 (by decide) wm_2_105 rfl (fun q9 => ?_)
        refine r_getR (j := 8) cl5 hz dX7_lapseOld_45 (by decide) wm_1_164 rfl (fun q10 => ?_)
        refine r_iload_n hz dX7_lapseOld_48 0 rfl ?_
        refine r_iald hz dX7_lapseOld_49 ?_
        refine r_isub hz dX7_lapseOld_50 ?_
        refine r_aload_n hz dX7_lapseOld_51 1 rfl ?_
        refine r_getR (j := 0) cl7 hz dX7_lapseOld_52 (by decide) wm_2_104 rfl (fun q11 => ?_)
        refine r_getR (j := 12) cl6 hz dX7_lapseOld_55 (by decide) wm_1_82 rfl (fun q12 => ?_)
        refine r_iload_n hz dX7_lapseOld_58 2 rfl ?_
        refine r_iald hz dX7_lapseOld_59 ?_
        refine r_icmp_lt (tgt := 73) hz dX7_lapseOld_60 rfl ?_ ?_
        · refine r_iinc (v := (x2 + (1 : Int32))) (lv' := [(2, .int (x2 + (1 : Int32))), (3, .int v4), (0, .ref x0), (1, .int x1)]) hz dX7_lapseOld_73 3 rfl rfl (by decide) rfl ?_
          refine r_goto (tgt := 2) hz dX7_lapseOld_76 rfl ?_
          refine r_sub [2, 3, 0] rfl ?_
          exact ih x0 x1 (x2 + (1 : Int32)) M3
        · refine r_aload_n hz dX7_lapseOld_63 1 rfl ?_
          refine r_getR (j := 1) cl7 hz dX7_lapseOld_64 (by decide) wm_2_105 rfl (fun q14 => ?_)
          refine r_getR (j := 6) cl5 hz dX7_lapseOld_67 (by decide) wm_1_157 rfl (fun q15 => ?_)
          refine r_iload_n hz dX7_lapseOld_70 0 rfl ?_
          refine r_iconst (v := 4) hz dX7_lapseOld_71 rfl ?_
          refine r_iast hz dX7_lapseOld_72 ?_
          refine r_nmM (fun M16 => ?_)
          refine r_iinc (v := (x2 + (1 : Int32))) (lv' := [(2, .int (x2 + (1 : Int32))), (3, .int v4), (0, .ref x0), (1, .int x1)]) hz dX7_lapseOld_73 3 rfl rfl (by decide) rfl ?_
          refine r_goto (tgt := 2) hz dX7_lapseOld_76 rfl ?_
          refine r_sub [2, 3, 0] rfl ?_
          exact ih x0 x1 (x2 + (1 : Int32)) M16
def f_X7_lapseOld (p0 : Nat) (p1 : Int32) (M : Mm) : Option (Unit × Mm) :=
  f_X7_lapseOld_2 FU p0 p1 (1 : Int32) M
set_option maxRecDepth 20000 in
set_option maxHeartbeats 4000000 in
theorem t_X7_lapseOld (p0 : Nat) (p1 : Int32) (M : Mm) (x : Unit) (M' : Mm) (h : f_X7_lapseOld p0 p1 M = some (x, M')) : Ctr yX7_lapseOld cX7_lapseOld 4 none rX7_lapseOld (fun _ => [.ref p0, .int p1]) M (zU x) M' := by
  refine ctr_of (plainFor_of_name (by decide)) (fun _ => Nat.le_of_ble_eq_true rfl) (fun z hz hin hq => ?_)
  have key : Sim z 0 [(0, .ref p0), (1, .int p1)] [] M 0 0 (f_X7_lapseOld p0 p1 M) (fun a b => a = x ∧ b = M') := by
    have hq : Ret z zU (fun a b => a = x ∧ b = M') := fun a b e => by rw [e.1, e.2]; exact hq
    unfold f_X7_lapseOld
    refine r_iconst (v := 1) hz dX7_lapseOld_0 rfl ?_
    refine r_istore_n (lv' := [(2, .int (1 : Int32)), (0, .ref p0), (1, .int p1)]) hz dX7_lapseOld_1 (by decide) rfl ?_
    refine r_sub [1, 2, 0] rfl ?_
    exact s_X7_lapseOld_2 hz hq FU p0 p1 (1 : Int32) M
  exact key x M' h ⟨rfl, rfl⟩
theorem dX7_year_0 : decode cX7_year 0 = .ok (.aload_n 0, 1) := by decide +kernel
theorem dX7_year_1 : decode cX7_year 1 = .ok (.getfield 19, 3) := by decide +kernel
theorem dX7_year_4 : decode cX7_year 4 = .ok (.getfield 102, 3) := by decide +kernel
theorem dX7_year_7 : decode cX7_year 7 = .ok (.bipush 60, 2) := by decide +kernel
theorem dX7_year_9 : decode cX7_year 9 = .ok (.if_icmp .lt 5, 3) := by decide +kernel
theorem dX7_year_12 : decode cX7_year 12 = .ok (.iconst (-1), 1) := by decide +kernel
theorem dX7_year_13 : decode cX7_year 13 = .ok (.ireturn, 1) := by decide +kernel
theorem dX7_year_14 : decode cX7_year 14 = .ok (.aload_n 0, 1) := by decide +kernel
theorem dX7_year_15 : decode cX7_year 15 = .ok (.invokevirtual 199, 3) := by decide +kernel
theorem dX7_year_18 : decode cX7_year 18 = .ok (.aload_n 0, 1) := by decide +kernel
theorem dX7_year_19 : decode cX7_year 19 = .ok (.getfield 19, 3) := by decide +kernel
theorem dX7_year_22 : decode cX7_year 22 = .ok (.getfield 102, 3) := by decide +kernel
theorem dX7_year_25 : decode cX7_year 25 = .ok (.iconst 1, 1) := by decide +kernel
theorem dX7_year_26 : decode cX7_year 26 = .ok (.iadd, 1) := by decide +kernel
theorem dX7_year_27 : decode cX7_year 27 = .ok (.istore_n 1, 1) := by decide +kernel
theorem dX7_year_28 : decode cX7_year 28 = .ok (.iconst 0, 1) := by decide +kernel
theorem dX7_year_29 : decode cX7_year 29 = .ok (.istore_n 2, 1) := by decide +kernel
theorem dX7_year_30 : decode cX7_year 30 = .ok (.iconst 0, 1) := by decide +kernel
theorem dX7_year_31 : decode cX7_year 31 = .ok (.istore_n 3, 1) := by decide +kernel
theorem dX7_year_32 : decode cX7_year 32 = .ok (.iload_n 3, 1) := by decide +kernel
theorem dX7_year_33 : decode cX7_year 33 = .ok (.aload_n 0, 1) := by decide +kernel
theorem dX7_year_34 : decode cX7_year 34 = .ok (.getfield 10, 3) := by decide +kernel
theorem dX7_year_37 : decode cX7_year 37 = .ok (.getfield 96, 3) := by decide +kernel
theorem dX7_year_40 : decode cX7_year 40 = .ok (.if_icmp .ge 31, 3) := by decide +kernel
theorem dX7_year_43 : decode cX7_year 43 = .ok (.iload_n 1, 1) := by decide +kernel
theorem dX7_year_44 : decode cX7_year 44 = .ok (.aload_n 0, 1) := by decide +kernel
theorem dX7_year_45 : decode cX7_year 45 = .ok (.getfield 10, 3) := by decide +kernel
theorem dX7_year_48 : decode cX7_year 48 = .ok (.getfield 137, 3) := by decide +kernel
theorem dX7_year_51 : decode cX7_year 51 = .ok (.iload_n 3, 1) := by decide +kernel
theorem dX7_year_52 : decode cX7_year 52 = .ok (.iaload, 1) := by decide +kernel
theorem dX7_year_53 : decode cX7_year 53 = .ok (.if_icmp .gt 12, 3) := by decide +kernel
theorem dX7_year_56 : decode cX7_year 56 = .ok (.iload_n 2, 1) := by decide +kernel
theorem dX7_year_57 : decode cX7_year 57 = .ok (.aload_n 0, 1) := by decide +kernel
theorem dX7_year_58 : decode cX7_year 58 = .ok (.iload_n 3, 1) := by decide +kernel
theorem dX7_year_59 : decode cX7_year 59 = .ok (.iload_n 1, 1) := by decide +kernel
theorem dX7_year_60 : decode cX7_year 60 = .ok (.invokevirtual 202, 3) := by decide +kernel
theorem dX7_year_63 : decode cX7_year 63 = .ok (.iadd, 1) := by decide +kernel
theorem dX7_year_64 : decode cX7_year 64 = .ok (.istore_n 2, 1) := by decide +kernel
theorem dX7_year_65 : decode cX7_year 65 = .ok (.iinc 3 1, 3) := by decide +kernel
theorem dX7_year_68 : decode cX7_year 68 = .ok (.goto (-36), 3) := by decide +kernel
theorem dX7_year_71 : decode cX7_year 71 = .ok (.aload_n 0, 1) := by decide +kernel
theorem dX7_year_72 : decode cX7_year 72 = .ok (.getfield 19, 3) := by decide +kernel
theorem dX7_year_75 : decode cX7_year 75 = .ok (.iload_n 1, 1) := by decide +kernel
theorem dX7_year_76 : decode cX7_year 76 = .ok (.putfield 102, 3) := by decide +kernel
theorem dX7_year_79 : decode cX7_year 79 = .ok (.iconst 0, 1) := by decide +kernel
theorem dX7_year_80 : decode cX7_year 80 = .ok (.istore_n 3, 1) := by decide +kernel
theorem dX7_year_81 : decode cX7_year 81 = .ok (.iload_n 3, 1) := by decide +kernel
theorem dX7_year_82 : decode cX7_year 82 = .ok (.aload_n 0, 1) := by decide +kernel
theorem dX7_year_83 : decode cX7_year 83 = .ok (.getfield 10, 3) := by decide +kernel
theorem dX7_year_86 : decode cX7_year 86 = .ok (.getfield 96, 3) := by decide +kernel
theorem dX7_year_89 : decode cX7_year 89 = .ok (.if_icmp .ge 14, 3) := by decide +kernel
theorem dX7_year_92 : decode cX7_year 92 = .ok (.aload_n 0, 1) := by decide +kernel
theorem dX7_year_93 : decode cX7_year 93 = .ok (.iload_n 3, 1) := by decide +kernel
theorem dX7_year_94 : decode cX7_year 94 = .ok (.invokevirtual 205, 3) := by decide +kernel
theorem dX7_year_97 : decode cX7_year 97 = .ok (.iinc 3 1, 3) := by decide +kernel
theorem dX7_year_100 : decode cX7_year 100 = .ok (.goto (-19), 3) := by decide +kernel
theorem dX7_year_103 : decode cX7_year 103 = .ok (.iload_n 2, 1) := by decide +kernel
theorem dX7_year_104 : decode cX7_year 104 = .ok (.ireturn, 1) := by decide +kernel
abbrev rX7_year : Room := { frames := 5, cells := 10, slots := 1152, locals := 119 }
theorem cal_X7_year : CalOk yX7_year cX7_year 4 (some .int) 0 := ⟨wm_3_195, wm_1_1, by decide, by decide, by decide +kernel⟩
def f_X7_year_81 : Nat → Nat → Int32 → Int32 → Mm → Option (Int32 × Mm)
  | 0, _, _, _, _ => none
  | n + 1, x0, x2, x3, M =>
    ck (gK M x0 = 7) (bR (gR M x0 0) fun q1 => ck (gK M q1 = 6) ((if (gI M q1 0) ≤ x3 then
      some (x2, M)
    else
      ck (gK M x0 = 7) (bd (f_X7_lapseOld x0 x3 M) fun _ M2 =>
      f_X7_year_81 n x0 x2 (x3 + (1 : Int32)) M2))))
set_option maxRecDepth 20000 in
set_option maxHeartbeats 4000000 in
theorem s_X7_year_81 {z : Zt} {K : Int32 → Mm → Prop} (hz : Good z RX7 cX7_year 4 rX7_year (some .int)) (hq : Ret z zI K) : ∀ (n : Nat) (x0 : Nat) (x2 : Int32) (x3 : Int32) (M : Mm), Sim z 81 [(0, .ref x0), (2, .int x2), (3, .int x3)] [] M 10 1152 (f_X7_year_81 n x0 x2 x3 M) K := by
  intro n
  induction n with
  | zero => exact fun _ _ _ _ => r_none
  | succ n ih =>
    intro x0 x2 x3 M
    unfold f_X7_year_81
    refine r_iload_n hz dX7_year_81 2 rfl ?_
    refine r_aload_n hz dX7_year_82 0 rfl ?_
    refine r_getR (j := 0) cl7 hz dX7_year_83 (by decide) wm_2_104 rfl (fun q1 => ?_)
    refine r_getI (j := 0) cl6 hz dX7_year_86 (by decide) wm_1_38 rfl ?_
    refine r_icmp_ge (tgt := 103) hz dX7_year_89 rfl ?_ ?_
    · refine r_iload_n hz dX7_year_103 1 rfl ?_
      exact r_iret hz hq dX7_year_104 (Nat.le_of_ble_eq_true rfl) (Nat.le_of_ble_eq_true rfl)
    · refine r_aload_n hz dX7_year_92 0 rfl ?_
      refine r_iload_n hz dX7_year_93 2 rfl ?_
      refine r_callVv (As := fun _ => [.int x3]) cl7 hz (fun _ _ h => t_X7_lapseOld _ _ _ _ _ h) cal_X7_lapseOld dX7_year_94 wm_4_24 wm_4_26 wm_p_35 rfl rfl (Nat.le_of_ble_eq_true rfl) ⟨(Nat.le_of_ble_eq_true rfl), (Nat.le_of_ble_eq_true rfl)⟩ ⟨(Nat.le_of_ble_eq_true rfl), (Nat.le_of_ble_eq_true rfl)⟩ (fun _ M2 => ?_)
      refine r_iinc (v := (x3 + (1 : Int32))) (lv' := [(3, .int (x3 + (1 : Int32))), (0, .ref x0), (2, .int x2)]) hz dX7_year_97 2 rfl rfl (by decide) rfl ?_
      refine r_goto (tgt := 81) hz dX7_year_100 rfl ?_
      refine r_sub [1, 2, 0] rfl ?_
      exact ih x0 x2 (x3 + (1 : Int32)) M2
def f_X7_year_32 : Nat → Nat → Int32 → Int32 → Int32 → Mm → Option (Int32 × Mm)
  | 0, _, _, _, _, _ => none
  | n + 1, x0, x1, x2, x3, M =>
    ck (gK M x0 = 7) (bR (gR M x0 0) fun q1 => ck (gK M q1 = 6) ((if (gI M q1 0) ≤ x3 then
      ck (gK M x0 = 7) (bR (gR M x0 1) fun q2 => ck (gK M q2 = 5) (nm (sI M q2 0 x1) fun M3 =>
      f_X7_year_81 FU x0 x2 (0 : Int32) M3))
    else
      ck (gK M x0 = 7) (bR (gR M x0 0) fun q4 => ck (gK M q4 = 6) (bR (gR M q4 9) fun q5 => ck (gK M q5 = 10 ∧ inb x3 (gN M q5)) ((if (gI M q5 (x3).toNatClampNeg) < x1 then
        f_X7_year_32 n x0 x1 x2 (x3 + (1 : Int32)) M
      else
        ck (gK M x0 = 7) (bd (f_X7_passYear x0 x3 x1 M) fun v8 M7 =>
        nm (x2 + v8) fun v9 =>
        f_X7_year_32 n x0 x1 v9 (x3 + (1 : Int32)) M7))))))))
set_option maxRecDepth 20000 in
set_option maxHeartbeats 4000000 in
theorem s_X7_year_32 {z : Zt} {K : Int32 → Mm → Prop} (hz : Good z RX7 cX7_year 4 rX7_year (some .int)) (hq : Ret z zI K) : ∀ (n : Nat) (x0 : Nat) (x1 : Int32) (x2 : Int32) (x3 : Int32) (M : Mm), Sim z 32 [(0, .ref x0), (1, .int x1), (2, .int x2), (3, .int x3)] [] M 10 1152 (f_X7_year_32 n x0 x1 x2 x3 M) K := by
  intro n
  induction n with
  | zero => exact fun _ _ _ _ _ => r_none
  | succ n ih =>
    intro x0 x1 x2 x3 M
    unfold f_X7_year_32
    refine r_iload_n hz dX7_year_32 3 rfl ?_
    refine r_aload_n hz dX7_year_33 0 rfl ?_
    refine r_getR (j := 0) cl7 hz dX7_year_34 (by decide) wm_2_104 rfl (fun q1 => ?_)
    refine r_getI (j := 0) cl6 hz dX7_year_37 (by decide) wm_1_38 rfl ?_
    refine r_icmp_ge (tgt := 71) hz dX7_year_40 rfl ?_ ?_
    · refine r_aload_n hz dX7_year_71 0 rfl ?_
      refine r_getR (j := 1) cl7 hz dX7_year_72 (by decide) wm_2_105 rfl (fun q2 => ?_)
      refine r_iload_n hz dX7_year_75 1 rfl ?_
      refine r_putI (j := 0) cl5 hz dX7_year_76 (by decide) wm_1_142 (Or.inl rfl) rfl rfl rfl ?_
      refine r_nmM (fun M3 => ?_)
      refine r_iconst (v := 0) hz dX7_year_79 rfl ?_
      refine r_istore_n (lv' := [(3, .int (0 : Int32)), (0, .ref x0), (1, .int x1), (2, .int x2)]) hz dX7_year_80 (by decide) rfl ?_
      refine r_sub [1, 3, 0] rfl ?_
      exact s_X7_year_81 hz hq FU x0 x2 (0 : Int32) M3
    · refine r_iload_n hz dX7_year_43 1 rfl ?_
      refine r_aload_n hz dX7_year_44 0 rfl ?_
      refine r_getR (j := 0) cl7 hz dX7_year_45 (by decide) wm_2_104 rfl (fun q4 => ?_)
      refine r_getR (j := 9) cl6 hz dX7_year_48 (by decide) wm_1_71 rfl (fun q5 => ?_)
      refine r_iload_n hz dX7_year_51 3 rfl ?_
      refine r_iald hz dX7_year_52 ?_
      refine r_icmp_gt (tgt := 65) hz dX7_year_53 rfl ?_ ?_
      · refine r_iinc (v := (x3 + (1 : Int32))) (lv' := [(3, .int (x3 + (1 : Int32))), (0, .ref x0), (1, .int x1), (2, .int x2)]) hz dX7_year_65 3 rfl rfl (by decide) rfl ?_
        refine r_goto (tgt := 32) hz dX7_year_68 rfl ?_
        refine r_sub [1, 2, 3, 0] rfl ?_
        exact ih x0 x1 x2 (x3 + (1 : Int32)) M
      · refine r_iload_n hz dX7_year_56 2 rfl ?_
        refine r_aload_n hz dX7_year_57 0 rfl ?_
        refine r_iload_n hz dX7_year_58 3 rfl ?_
        refine r_iload_n hz dX7_year_59 1 rfl ?_
        refine r_callVi (As := fun _ => [.int x3, .int x1]) cl7 hz (fun _ _ h => t_X7_passYear _ _ _ _ _ _ h) cal_X7_passYear dX7_year_60 wm_3_204 wm_3_206 wm_p_31 rfl rfl (Nat.le_of_ble_eq_true rfl) ⟨(Nat.le_of_ble_eq_true rfl), (Nat.le_of_ble_eq_true rfl)⟩ ⟨(Nat.le_of_ble_eq_true rfl), (Nat.le_of_ble_eq_true rfl)⟩ (fun v8 M7 => ?_)
        refine r_iadd hz dX7_year_63 ?_
        refine r_nmi (fun v9 => ?_)
        refine r_istore_n (lv' := [(2, .int v9), (0, .ref x0), (1, .int x1), (3, .int x3)]) hz dX7_year_64 (by decide) rfl ?_
        refine r_iinc (v := (x3 + (1 : Int32))) (lv' := [(3, .int (x3 + (1 : Int32))), (2, .int v9), (0, .ref x0), (1, .int x1)]) hz dX7_year_65 3 rfl rfl (by decide) rfl ?_
        refine r_goto (tgt := 32) hz dX7_year_68 rfl ?_
        refine r_sub [2, 3, 1, 0] rfl ?_
        exact ih x0 x1 v9 (x3 + (1 : Int32)) M7
def f_X7_year (p0 : Nat) (M : Mm) : Option (Int32 × Mm) :=
  ck (gK M p0 = 7) (bR (gR M p0 1) fun q1 => ck (gK M q1 = 5) ((if (gI M q1 0) < (60 : Int32) then
    ck (gK M p0 = 7) (bd (f_X7_remember p0 M) fun _ M2 =>
    ck (gK M2 p0 = 7) (bR (gR M2 p0 1) fun q3 => ck (gK M2 q3 = 5) (nm ((gI M2 q3 0) + (1 : Int32)) fun v4 =>
    f_X7_year_32 FU p0 v4 (0 : Int32) (0 : Int32) M2)))
  else
    some ((-1 : Int32), M))))
set_option maxRecDepth 20000 in
set_option maxHeartbeats 4000000 in
theorem t_X7_year (p0 : Nat) (M : Mm) (x : Int32) (M' : Mm) (h : f_X7_year p0 M = some (x, M')) : Ctr yX7_year cX7_year 4 (some .int) rX7_year (fun _ => [.ref p0]) M (zI x) M' := by
  refine ctr_of (plainFor_of_name (by decide)) (fun _ => Nat.le_of_ble_eq_true rfl) (fun z hz hin hq => ?_)
  have key : Sim z 0 [(0, .ref p0)] [] M 0 0 (f_X7_year p0 M) (fun a b => a = x ∧ b = M') := by
    have hq : Ret z zI (fun a b => a = x ∧ b = M') := fun a b e => by rw [e.1, e.2]; exact hq
    unfold f_X7_year
    refine r_aload_n hz dX7_year_0 0 rfl ?_
    refine r_getR (j := 1) cl7 hz dX7_year_1 (by decide) wm_2_105 rfl (fun q1 => ?_)
    refine r_getI (j := 0) cl5 hz dX7_year_4 (by decide) wm_1_142 rfl ?_
    refine r_bipush (v := 60) hz dX7_year_7 rfl ?_
    refine r_icmp_lt (tgt := 14) hz dX7_year_9 rfl ?_ ?_
    · refine r_aload_n hz dX7_year_14 0 rfl ?_
      refine r_callVv (As := fun _ => []) cl7 hz (fun _ _ h => t_X7_remember _ _ _ _ h) cal_X7_remember dX7_year_15 wm_3_196 wm_3_198 wm_p_30 rfl rfl (Nat.le_of_ble_eq_true rfl) ⟨(Nat.le_of_ble_eq_true rfl), (Nat.le_of_ble_eq_true rfl)⟩ ⟨(Nat.le_of_ble_eq_true rfl), (Nat.le_of_ble_eq_true rfl)⟩ (fun _ M2 => ?_)
      refine r_aload_n hz dX7_year_18 0 rfl ?_
      refine r_getR (j := 1) cl7 hz dX7_year_19 (by decide) wm_2_105 rfl (fun q3 => ?_)
      refine r_getI (j := 0) cl5 hz dX7_year_22 (by decide) wm_1_142 rfl ?_
      refine r_iconst (v := 1) hz dX7_year_25 rfl ?_
      refine r_iadd hz dX7_year_26 ?_
      refine r_nmi (fun v4 => ?_)
      refine r_istore_n (lv' := [(1, .int v4), (0, .ref p0)]) hz dX7_year_27 (by decide) rfl ?_
      refine r_iconst (v := 0) hz dX7_year_28 rfl ?_
      refine r_istore_n (lv' := [(2, .int (0 : Int32)), (1, .int v4), (0, .ref p0)]) hz dX7_year_29 (by decide) rfl ?_
      refine r_iconst (v := 0) hz dX7_year_30 rfl ?_
      refine r_istore_n (lv' := [(3, .int (0 : Int32)), (2, .int (0 : Int32)), (1, .int v4), (0, .ref p0)]) hz dX7_year_31 (by decide) rfl ?_
      refine r_sub [3, 2, 1, 0] rfl ?_
      exact s_X7_year_32 hz hq FU p0 v4 (0 : Int32) (0 : Int32) M2
    · refine r_iconst (v := -1) hz dX7_year_12 rfl ?_
      exact r_iret hz hq dX7_year_13 (Nat.le_of_ble_eq_true rfl) (Nat.le_of_ble_eq_true rfl)
  exact key x M' h ⟨rfl, rfl⟩
theorem dX7_claim_0 : decode cX7_claim 0 = .ok (.aload_n 0, 1) := by decide +kernel
theorem dX7_claim_1 : decode cX7_claim 1 = .ok (.iload_n 1, 1) := by decide +kernel
theorem dX7_claim_2 : decode cX7_claim 2 = .ok (.invokevirtual 156, 3) := by decide +kernel
theorem dX7_claim_5 : decode cX7_claim 5 = .ok (.ifCond .eq 11, 3) := by decide +kernel
theorem dX7_claim_8 : decode cX7_claim 8 = .ok (.aload_n 0, 1) := by decide +kernel
theorem dX7_claim_9 : decode cX7_claim 9 = .ok (.iload_n 2, 1) := by decide +kernel
theorem dX7_claim_10 : decode cX7_claim 10 = .ok (.invokevirtual 116, 3) := by decide +kernel
theorem dX7_claim_13 : decode cX7_claim 13 = .ok (.ifCond .ne 5, 3) := by decide +kernel
theorem dX7_claim_16 : decode cX7_claim 16 = .ok (.iconst (-1), 1) := by decide +kernel
theorem dX7_claim_17 : decode cX7_claim 17 = .ok (.ireturn, 1) := by decide +kernel
theorem dX7_claim_18 : decode cX7_claim 18 = .ok (.aload_n 0, 1) := by decide +kernel
theorem dX7_claim_19 : decode cX7_claim 19 = .ok (.getfield 19, 3) := by decide +kernel
theorem dX7_claim_22 : decode cX7_claim 22 = .ok (.aload_n 0, 1) := by decide +kernel
theorem dX7_claim_23 : decode cX7_claim 23 = .ok (.getfield 10, 3) := by decide +kernel
theorem dX7_claim_26 : decode cX7_claim 26 = .ok (.iload_n 2, 1) := by decide +kernel
theorem dX7_claim_27 : decode cX7_claim 27 = .ok (.iconst 1, 1) := by decide +kernel
theorem dX7_claim_28 : decode cX7_claim 28 = .ok (.iload_n 1, 1) := by decide +kernel
theorem dX7_claim_29 : decode cX7_claim 29 = .ok (.invokevirtual 162, 3) := by decide +kernel
theorem dX7_claim_32 : decode cX7_claim 32 = .ok (.ifCond .ne 5, 3) := by decide +kernel
theorem dX7_claim_35 : decode cX7_claim 35 = .ok (.iconst 0, 1) := by decide +kernel
theorem dX7_claim_36 : decode cX7_claim 36 = .ok (.ireturn, 1) := by decide +kernel
theorem dX7_claim_37 : decode cX7_claim 37 = .ok (.aload_n 0, 1) := by decide +kernel
theorem dX7_claim_38 : decode cX7_claim 38 = .ok (.invokevirtual 199, 3) := by decide +kernel
theorem dX7_claim_41 : decode cX7_claim 41 = .ok (.iconst 0, 1) := by decide +kernel
theorem dX7_claim_42 : decode cX7_claim 42 = .ok (.istore_n 3, 1) := by decide +kernel
theorem dX7_claim_43 : decode cX7_claim 43 = .ok (.iconst 1, 1) := by decide +kernel
theorem dX7_claim_44 : decode cX7_claim 44 = .ok (.istore 4, 2) := by decide +kernel
theorem dX7_claim_46 : decode cX7_claim 46 = .ok (.iload 4, 2) := by decide +kernel
theorem dX7_claim_48 : decode cX7_claim 48 = .ok (.aload_n 0, 1) := by decide +kernel
theorem dX7_claim_49 : decode cX7_claim 49 = .ok (.getfield 10, 3) := by decide +kernel
theorem dX7_claim_52 : decode cX7_claim 52 = .ok (.getfield 127, 3) := by decide +kernel
theorem dX7_claim_55 : decode cX7_claim 55 = .ok (.iload_n 2, 1) := by decide +kernel
theorem dX7_claim_56 : decode cX7_claim 56 = .ok (.iaload, 1) := by decide +kernel
theorem dX7_claim_57 : decode cX7_claim 57 = .ok (.if_icmp .gt 66, 3) := by decide +kernel
theorem dX7_claim_60 : decode cX7_claim 60 = .ok (.iload_n 2, 1) := by decide +kernel
theorem dX7_claim_61 : decode cX7_claim 61 = .ok (.iload 4, 2) := by decide +kernel
theorem dX7_claim_63 : decode cX7_claim 63 = .ok (.invokestatic 170, 3) := by decide +kernel
theorem dX7_claim_66 : decode cX7_claim 66 = .ok (.istore 5, 2) := by decide +kernel
theorem dX7_claim_68 : decode cX7_claim 68 = .ok (.aload_n 0, 1) := by decide +kernel
theorem dX7_claim_69 : decode cX7_claim 69 = .ok (.getfield 19, 3) := by decide +kernel
theorem dX7_claim_72 : decode cX7_claim 72 = .ok (.getfield 174, 3) := by decide +kernel
theorem dX7_claim_75 : decode cX7_claim 75 = .ok (.iload 5, 2) := by decide +kernel
theorem dX7_claim_77 : decode cX7_claim 77 = .ok (.iaload, 1) := by decide +kernel
theorem dX7_claim_78 : decode cX7_claim 78 = .ok (.iconst 1, 1) := by decide +kernel
theorem dX7_claim_79 : decode cX7_claim 79 = .ok (.if_icmp .ne 38, 3) := by decide +kernel
theorem dX7_claim_82 : decode cX7_claim 82 = .ok (.aload_n 0, 1) := by decide +kernel
theorem dX7_claim_83 : decode cX7_claim 83 = .ok (.getfield 19, 3) := by decide +kernel
theorem dX7_claim_86 : decode cX7_claim 86 = .ok (.getfield 177, 3) := by decide +kernel
theorem dX7_claim_89 : decode cX7_claim 89 = .ok (.iload 5, 2) := by decide +kernel
theorem dX7_claim_91 : decode cX7_claim 91 = .ok (.iaload, 1) := by decide +kernel
theorem dX7_claim_92 : decode cX7_claim 92 = .ok (.iload_n 1, 1) := by decide +kernel
theorem dX7_claim_93 : decode cX7_claim 93 = .ok (.if_icmp .ne 24, 3) := by decide +kernel
theorem dX7_claim_96 : decode cX7_claim 96 = .ok (.iload_n 3, 1) := by decide +kernel
theorem dX7_claim_97 : decode cX7_claim 97 = .ok (.aload_n 0, 1) := by decide +kernel
theorem dX7_claim_98 : decode cX7_claim 98 = .ok (.iload_n 2, 1) := by decide +kernel
theorem dX7_claim_99 : decode cX7_claim 99 = .ok (.iload 5, 2) := by decide +kernel
theorem dX7_claim_101 : decode cX7_claim 101 = .ok (.invokevirtual 246, 3) := by decide +kernel
theorem dX7_claim_104 : decode cX7_claim 104 = .ok (.iadd, 1) := by decide +kernel
theorem dX7_claim_105 : decode cX7_claim 105 = .ok (.istore_n 3, 1) := by decide +kernel
theorem dX7_claim_106 : decode cX7_claim 106 = .ok (.aload_n 0, 1) := by decide +kernel
theorem dX7_claim_107 : decode cX7_claim 107 = .ok (.getfield 19, 3) := by decide +kernel
theorem dX7_claim_110 : decode cX7_claim 110 = .ok (.getfield 174, 3) := by decide +kernel
theorem dX7_claim_113 : decode cX7_claim 113 = .ok (.iload 5, 2) := by decide +kernel
theorem dX7_claim_115 : decode cX7_claim 115 = .ok (.iconst 2, 1) := by decide +kernel
theorem dX7_claim_116 : decode cX7_claim 116 = .ok (.iastore, 1) := by decide +kernel
theorem dX7_claim_117 : decode cX7_claim 117 = .ok (.iinc 4 1, 3) := by decide +kernel
theorem dX7_claim_120 : decode cX7_claim 120 = .ok (.goto (-74), 3) := by decide +kernel
theorem dX7_claim_123 : decode cX7_claim 123 = .ok (.aload_n 0, 1) := by decide +kernel
theorem dX7_claim_124 : decode cX7_claim 124 = .ok (.getfield 19, 3) := by decide +kernel
theorem dX7_claim_127 : decode cX7_claim 127 = .ok (.iload_n 1, 1) := by decide +kernel
theorem dX7_claim_128 : decode cX7_claim 128 = .ok (.iload_n 3, 1) := by decide +kernel
theorem dX7_claim_129 : decode cX7_claim 129 = .ok (.invokevirtual 238, 3) := by decide +kernel
theorem dX7_claim_132 : decode cX7_claim 132 = .ok (.iload_n 3, 1) := by decide +kernel
theorem dX7_claim_133 : decode cX7_claim 133 = .ok (.ireturn, 1) := by decide +kernel
abbrev rX7_claim : Room := { frames := 3, cells := 10, slots := 1152, locals := 83 }
theorem cal_X7_claim : CalOk yX7_claim cX7_claim 6 (some .int) 2 := ⟨wm_4_31, wm_1_1, by decide, by decide, by decide +kernel⟩
def f_X7_claim_46 : Nat → Nat → Int32 → Int32 → Int32 → Int32 → Mm → Option (Int32 × Mm)
  | 0, _, _, _, _, _, _ => none
  | n + 1, x0, x1, x2, x3, x4, M =>
    ck (gK M x0 = 7) (bR (gR M x0 0) fun q1 => ck (gK M q1 = 6) (bR (gR M q1 6) fun q2 => ck (gK M q2 = 10 ∧ inb x2 (gN M q2)) ((if (gI M q2 (x2).toNatClampNeg) < x4 then
      ck (gK M x0 = 7) (bR (gR M x0 1) fun q3 => ck (gK M q3 = 5) (bd (f_X5_pay q3 x1 x3 M) fun _ M4 =>
      some (x3, M4)))
    else
      bd (f_X7_spotOf x2 x4 M) fun v6 M5 =>
      ck (gK M5 x0 = 7) (bR (gR M5 x0 1) fun q7 => ck (gK M5 q7 = 5) (bR (gR M5 q7 6) fun q8 => ck (gK M5 q8 = 10 ∧ inb v6 (gN M5 q8)) ((if ¬ (gI M5 q8 (v6).toNatClampNeg) = (1 : Int32) then
        f_X7_claim_46 n x0 x1 x2 x3 (x4 + (1 : Int32)) M5
      else
        ck (gK M5 x0 = 7) (bR (gR M5 x0 1) fun q10 => ck (gK M5 q10 = 5) (bR (gR M5 q10 7) fun q11 => ck (gK M5 q11 = 10 ∧ inb v6 (gN M5 q11)) ((if ¬ (gI M5 q11 (v6).toNatClampNeg) = x1 then
          f_X7_claim_46 n x0 x1 x2 x3 (x4 + (1 : Int32)) M5
        else
          ck (gK M5 x0 = 7) (bd (f_X7_drawnSum x0 x2 v6 M5) fun v14 M13 =>
          nm (x3 + v14) fun v15 =>
          ck (gK M13 x0 = 7) (bR (gR M13 x0 1) fun q16 => ck (gK M13 q16 = 5) (bR (gR M13 q16 6) fun q17 => ck (gK M13 q17 = 10 ∧ inb v6 (gN M13 q17)) (nm (sI M13 q17 (v6).toNatClampNeg (2 : Int32)) fun M18 =>
          f_X7_claim_46 n x0 x1 x2 v15 (x4 + (1 : Int32)) M18))))))))))))))))
set_option maxRecDepth 20000 in
set_option maxHeartbeats 4000000 in
theorem s_X7_claim_46 {z : Zt} {K : Int32 → Mm → Prop} (hz : Good z RX7 cX7_claim 6 rX7_claim (some .int)) (hq : Ret z zI K) : ∀ (n : Nat) (x0 : Nat) (x1 : Int32) (x2 : Int32) (x3 : Int32) (x4 : Int32) (M : Mm), Sim z 46 [(0, .ref x0), (1, .int x1), (2, .int x2), (3, .int x3), (4, .int x4)] [] M 10 1152 (f_X7_claim_46 n x0 x1 x2 x3 x4 M) K := by
  intro n
  induction n with
  | zero => exact fun _ _ _ _ _ _ => r_none
  | succ n ih =>
    intro x0 x1 x2 x3 x4 M
    unfold f_X7_claim_46
    refine r_iload hz dX7_claim_46 4 rfl ?_
    refine r_aload_n hz dX7_claim_48 0 rfl ?_
    refine r_getR (j := 0) cl7 hz dX7_claim_49 (by decide) wm_2_104 rfl (fun q1 => ?_)
    refine r_getR (j := 6) cl6 hz dX7_claim_52 (by decide) wm_1_57 rfl (fun q2 => ?_)
    refine r_iload_n hz dX7_claim_55 2 rfl ?_
    refine r_iald hz dX7_claim_56 ?_
    refine r_icmp_gt (tgt := 123) hz dX7_claim_57 rfl ?_ ?_
    · refine r_aload_n hz dX7_claim_123 0 rfl ?_
      refine r_getR (j := 1) cl7 hz dX7_claim_124 (by decide) wm_2_105 rfl (fun q3 => ?_)
      refine r_iload_n hz dX7_claim_127 1 rfl ?_
      refine r_iload_n hz dX7_claim_128 3 rfl ?_
      refine r_callVv (As := fun _ => [.int x1, .int x3]) cl5 hz (fun _ _ h => t_X5_pay _ _ _ _ _ _ h) cal_X5_pay dX7_claim_129 wm_4_0 wm_4_1 wm_4_2 rfl rfl (Nat.le_of_ble_eq_true rfl) ⟨(Nat.le_of_ble_eq_true rfl), (Nat.le_of_ble_eq_true rfl)⟩ ⟨(Nat.le_of_ble_eq_true rfl), (Nat.le_of_ble_eq_true rfl)⟩ (fun _ M4 => ?_)
      refine r_iload_n hz dX7_claim_132 3 rfl ?_
      exact r_iret hz hq dX7_claim_133 (Nat.le_of_ble_eq_true rfl) (Nat.le_of_ble_eq_true rfl)
    · refine r_iload_n hz dX7_claim_60 2 rfl ?_
      refine r_iload hz dX7_claim_61 4 rfl ?_
      refine r_callSi (As := fun _ => [.int x2, .int x4]) hz (fun _ _ h => t_X7_spotOf _ _ _ _ _ h) cal_X7_spotOf dX7_claim_63 wm_3_165 wm_3_78 rfl rfl (Nat.le_of_ble_eq_true rfl) ⟨(Nat.le_of_ble_eq_true rfl), (Nat.le_of_ble_eq_true rfl)⟩ ⟨(Nat.le_of_ble_eq_true rfl), (Nat.le_of_ble_eq_true rfl)⟩ (fun v6 M5 => ?_)
      refine r_istore (lv' := [(5, .int v6), (0, .ref x0), (1, .int x1), (2, .int x2), (3, .int x3), (4, .int x4)]) hz dX7_claim_66 (by decide) rfl ?_
      refine r_aload_n hz dX7_claim_68 1 rfl ?_
      refine r_getR (j := 1) cl7 hz dX7_claim_69 (by decide) wm_2_105 rfl (fun q7 => ?_)
      refine r_getR (j := 6) cl5 hz dX7_claim_72 (by decide) wm_1_157 rfl (fun q8 => ?_)
      refine r_iload hz dX7_claim_75 0 rfl ?_
      refine r_iald hz dX7_claim_77 ?_
      refine r_iconst (v := 1) hz dX7_claim_78 rfl ?_
      refine r_icmp_ne (tgt := 117) hz dX7_claim_79 rfl ?_ ?_
      · refine r_iinc (v := (x4 + (1 : Int32))) (lv' := [(4, .int (x4 + (1 : Int32))), (5, .int v6), (0, .ref x0), (1, .int x1), (2, .int x2), (3, .int x3)]) hz dX7_claim_117 5 rfl rfl (by decide) rfl ?_
        refine r_goto (tgt := 46) hz dX7_claim_120 rfl ?_
        refine r_sub [2, 3, 4, 5, 0] rfl ?_
        exact ih x0 x1 x2 x3 (x4 + (1 : Int32)) M5
      · refine r_aload_n hz dX7_claim_82 1 rfl ?_
        refine r_getR (j := 1) cl7 hz dX7_claim_83 (by decide) wm_2_105 rfl (fun q10 => ?_)
        refine r_getR (j := 7) cl5 hz dX7_claim_86 (by decide) wm_1_160 rfl (fun q11 => ?_)
        refine r_iload hz dX7_claim_89 0 rfl ?_
        refine r_iald hz dX7_claim_91 ?_
        refine r_iload_n hz dX7_claim_92 2 rfl ?_
        refine r_icmp_ne (tgt := 117) hz dX7_claim_93 rfl ?_ ?_
        · refine r_iinc (v := (x4 + (1 : Int32))) (lv' := [(4, .int (x4 + (1 : Int32))), (5, .int v6), (0, .ref x0), (1, .int x1), (2, .int x2), (3, .int x3)]) hz dX7_claim_117 5 rfl rfl (by decide) rfl ?_
          refine r_goto (tgt := 46) hz dX7_claim_120 rfl ?_
          refine r_sub [2, 3, 4, 5, 0] rfl ?_
          exact ih x0 x1 x2 x3 (x4 + (1 : Int32)) M5
        · refine r_iload_n hz dX7_claim_96 4 rfl ?_
          refine r_aload_n hz dX7_claim_97 1 rfl ?_
          refine r_iload_n hz dX7_claim_98 3 rfl ?_
          refine r_iload hz dX7_claim_99 0 rfl ?_
          refine r_callVi (As := fun _ => [.int x2, .int v6]) cl7 hz (fun _ _ h => t_X7_drawnSum _ _ _ _ _ _ h) cal_X7_drawnSum dX7_claim_101 wm_3_174 wm_3_176 wm_p_29 rfl rfl (Nat.le_of_ble_eq_true rfl) ⟨(Nat.le_of_ble_eq_true rfl), (Nat.le_of_ble_eq_true rfl)⟩ ⟨(Nat.le_of_ble_eq_true rfl), (Nat.le_of_ble_eq_true rfl)⟩ (fun v14 M13 => ?_)
          refine r_iadd hz dX7_claim_104 ?_
          refine r_nmi (fun v15 => ?_)
          refine r_istore_n (lv' := [(3, .int v15), (5, .int v6), (0, .ref x0), (1, .int x1), (2, .int x2), (4, .int x4)]) hz dX7_claim_105 (by decide) rfl ?_
          refine r_aload_n hz dX7_claim_106 2 rfl ?_
          refine r_getR (j := 1) cl7 hz dX7_claim_107 (by decide) wm_2_105 rfl (fun q16 => ?_)
          refine r_getR (j := 6) cl5 hz dX7_claim_110 (by decide) wm_1_157 rfl (fun q17 => ?_)
          refine r_iload hz dX7_claim_113 1 rfl ?_
          refine r_iconst (v := 2) hz dX7_claim_115 rfl ?_
          refine r_iast hz dX7_claim_116 ?_
          refine r_nmM (fun M18 => ?_)
          refine r_iinc (v := (x4 + (1 : Int32))) (lv' := [(4, .int (x4 + (1 : Int32))), (3, .int v15), (5, .int v6), (0, .ref x0), (1, .int x1), (2, .int x2)]) hz dX7_claim_117 5 rfl rfl (by decide) rfl ?_
          refine r_goto (tgt := 46) hz dX7_claim_120 rfl ?_
          refine r_sub [3, 4, 5, 1, 0] rfl ?_
          exact ih x0 x1 x2 v15 (x4 + (1 : Int32)) M18
def f_X7_claim (p0 : Nat) (p1 : Int32) (p2 : Int32) (M : Mm) : Option (Int32 × Mm) :=
  ck (gK M p0 = 7) (bd (f_X7_isHolder p0 p1 M) fun v2 M1 =>
  (if v2 = 0 then
    some ((-1 : Int32), M1)
  else
    ck (gK M1 p0 = 7) (bd (f_X7_isLoan p0 p2 M1) fun v4 M3 =>
    (if ¬ v4 = 0 then
      ck (gK M3 p0 = 7) (bR (gR M3 p0 1) fun q5 => ck (gK M3 p0 = 7) (bR (gR M3 p0 0) fun q6 => ck (gK M3 q5 = 5) (bd (f_X5_countHeld q5 q6 p2 (1 : Int32) p1 M3) fun v8 M7 =>
      (if ¬ v8 = 0 then
        ck (gK M7 p0 = 7) (bd (f_X7_remember p0 M7) fun _ M9 =>
        f_X7_claim_46 FU p0 p1 p2 (0 : Int32) (1 : Int32) M9)
      else
        some ((0 : Int32), M7)))))
    else
      some ((-1 : Int32), M3)))))
set_option maxRecDepth 20000 in
set_option maxHeartbeats 4000000 in
theorem t_X7_claim (p0 : Nat) (p1 : Int32) (p2 : Int32) (M : Mm) (x : Int32) (M' : Mm) (h : f_X7_claim p0 p1 p2 M = some (x, M')) : Ctr yX7_claim cX7_claim 6 (some .int) rX7_claim (fun _ => [.ref p0, .int p1, .int p2]) M (zI x) M' := by
  refine ctr_of (plainFor_of_name (by decide)) (fun _ => Nat.le_of_ble_eq_true rfl) (fun z hz hin hq => ?_)
  have key : Sim z 0 [(0, .ref p0), (1, .int p1), (2, .int p2)] [] M 0 0 (f_X7_claim p0 p1 p2 M) (fun a b => a = x ∧ b = M') := by
    have hq : Ret z zI (fun a b => a = x ∧ b = M') := fun a b e => by rw [e.1, e.2]; exact hq
    unfold f_X7_claim
    refine r_aload_n hz dX7_claim_0 0 rfl ?_
    refine r_iload_n hz dX7_claim_1 1 rfl ?_
    refine r_callVi (As := fun _ => [.int p1]) cl7 hz (fun _ _ h => t_X7_isHolder _ _ _ _ _ h) cal_X7_isHolder dX7_claim_2 wm_3_141 wm_3_143 wm_p_24 rfl rfl (Nat.le_of_ble_eq_true rfl) ⟨(Nat.le_of_ble_eq_true rfl), (Nat.le_of_ble_eq_true rfl)⟩ ⟨(Nat.le_of_ble_eq_true rfl), (Nat.le_of_ble_eq_true rfl)⟩ (fun v2 M1 => ?_)
    refine r_if_eq (tgt := 16) hz dX7_claim_5 rfl ?_ ?_
    · refine r_iconst (v := -1) hz dX7_claim_16 rfl ?_
      exact r_iret hz hq dX7_claim_17 (Nat.le_of_ble_eq_true rfl) (Nat.le_of_ble_eq_true rfl)
    · refine r_aload_n hz dX7_claim_8 0 rfl ?_
      refine r_iload_n hz dX7_claim_9 2 rfl ?_
      refine r_callVi (As := fun _ => [.int p2]) cl7 hz (fun _ _ h => t_X7_isLoan _ _ _ _ _ h) cal_X7_isLoan dX7_claim_10 wm_3_149 wm_3_151 wm_p_25 rfl rfl (Nat.le_of_ble_eq_true rfl) ⟨(Nat.le_of_ble_eq_true rfl), (Nat.le_of_ble_eq_true rfl)⟩ ⟨(Nat.le_of_ble_eq_true rfl), (Nat.le_of_ble_eq_true rfl)⟩ (fun v4 M3 => ?_)
      refine r_if_ne (tgt := 18) hz dX7_claim_13 rfl ?_ ?_
      · refine r_aload_n hz dX7_claim_18 0 rfl ?_
        refine r_getR (j := 1) cl7 hz dX7_claim_19 (by decide) wm_2_105 rfl (fun q5 => ?_)
        refine r_aload_n hz dX7_claim_22 0 rfl ?_
        refine r_getR (j := 0) cl7 hz dX7_claim_23 (by decide) wm_2_104 rfl (fun q6 => ?_)
        refine r_iload_n hz dX7_claim_26 2 rfl ?_
        refine r_iconst (v := 1) hz dX7_claim_27 rfl ?_
        refine r_iload_n hz dX7_claim_28 1 rfl ?_
        refine r_callVi (As := fun _ => [.ref q6, .int p2, .int (1 : Int32), .int p1]) cl5 hz (fun _ _ h => t_X5_countHeld _ _ _ _ _ _ _ _ h) cal_X5_countHeld dX7_claim_29 wm_3_153 wm_3_154 wm_3_155 rfl rfl (Nat.le_of_ble_eq_true rfl) ⟨(Nat.le_of_ble_eq_true rfl), (Nat.le_of_ble_eq_true rfl)⟩ ⟨(Nat.le_of_ble_eq_true rfl), (Nat.le_of_ble_eq_true rfl)⟩ (fun v8 M7 => ?_)
        refine r_if_ne (tgt := 37) hz dX7_claim_32 rfl ?_ ?_
        · refine r_aload_n hz dX7_claim_37 0 rfl ?_
          refine r_callVv (As := fun _ => []) cl7 hz (fun _ _ h => t_X7_remember _ _ _ _ h) cal_X7_remember dX7_claim_38 wm_3_196 wm_3_198 wm_p_30 rfl rfl (Nat.le_of_ble_eq_true rfl) ⟨(Nat.le_of_ble_eq_true rfl), (Nat.le_of_ble_eq_true rfl)⟩ ⟨(Nat.le_of_ble_eq_true rfl), (Nat.le_of_ble_eq_true rfl)⟩ (fun _ M9 => ?_)
          refine r_iconst (v := 0) hz dX7_claim_41 rfl ?_
          refine r_istore_n (lv' := [(3, .int (0 : Int32)), (0, .ref p0), (1, .int p1), (2, .int p2)]) hz dX7_claim_42 (by decide) rfl ?_
          refine r_iconst (v := 1) hz dX7_claim_43 rfl ?_
          refine r_istore (lv' := [(4, .int (1 : Int32)), (3, .int (0 : Int32)), (0, .ref p0), (1, .int p1), (2, .int p2)]) hz dX7_claim_44 (by decide) rfl ?_
          refine r_sub [2, 3, 4, 1, 0] rfl ?_
          exact s_X7_claim_46 hz hq FU p0 p1 p2 (0 : Int32) (1 : Int32) M9
        · refine r_iconst (v := 0) hz dX7_claim_35 rfl ?_
          exact r_iret hz hq dX7_claim_36 (Nat.le_of_ble_eq_true rfl) (Nat.le_of_ble_eq_true rfl)
      · refine r_iconst (v := -1) hz dX7_claim_16 rfl ?_
        exact r_iret hz hq dX7_claim_17 (Nat.le_of_ble_eq_true rfl) (Nat.le_of_ble_eq_true rfl)
  exact key x M' h ⟨rfl, rfl⟩
theorem dX7_sell_0 : decode cX7_sell 0 = .ok (.aload_n 0, 1) := by decide +kernel
theorem dX7_sell_1 : decode cX7_sell 1 = .ok (.iload_n 1, 1) := by decide +kernel
theorem dX7_sell_2 : decode cX7_sell 2 = .ok (.iload_n 2, 1) := by decide +kernel
theorem dX7_sell_3 : decode cX7_sell 3 = .ok (.invokevirtual 166, 3) := by decide +kernel
theorem dX7_sell_6 : decode cX7_sell 6 = .ok (.ifCond .eq 23, 3) := by decide +kernel
theorem dX7_sell_9 : decode cX7_sell 9 = .ok (.aload_n 0, 1) := by decide +kernel
theorem dX7_sell_10 : decode cX7_sell 10 = .ok (.iload_n 3, 1) := by decide +kernel
theorem dX7_sell_11 : decode cX7_sell 11 = .ok (.invokevirtual 156, 3) := by decide +kernel
theorem dX7_sell_14 : decode cX7_sell 14 = .ok (.ifCond .eq 15, 3) := by decide +kernel
theorem dX7_sell_17 : decode cX7_sell 17 = .ok (.iload 4, 2) := by decide +kernel
theorem dX7_sell_19 : decode cX7_sell 19 = .ok (.ifCond .lt 10, 3) := by decide +kernel
theorem dX7_sell_22 : decode cX7_sell 22 = .ok (.iload 4, 2) := by decide +kernel
theorem dX7_sell_24 : decode cX7_sell 24 = .ok (.ldc 249, 2) := by decide +kernel
theorem dX7_sell_26 : decode cX7_sell 26 = .ok (.if_icmp .le 5, 3) := by decide +kernel
theorem dX7_sell_29 : decode cX7_sell 29 = .ok (.iconst 0, 1) := by decide +kernel
theorem dX7_sell_30 : decode cX7_sell 30 = .ok (.ireturn, 1) := by decide +kernel
theorem dX7_sell_31 : decode cX7_sell 31 = .ok (.iload_n 1, 1) := by decide +kernel
theorem dX7_sell_32 : decode cX7_sell 32 = .ok (.iload_n 2, 1) := by decide +kernel
theorem dX7_sell_33 : decode cX7_sell 33 = .ok (.invokestatic 170, 3) := by decide +kernel
theorem dX7_sell_36 : decode cX7_sell 36 = .ok (.istore 5, 2) := by decide +kernel
theorem dX7_sell_38 : decode cX7_sell 38 = .ok (.aload_n 0, 1) := by decide +kernel
theorem dX7_sell_39 : decode cX7_sell 39 = .ok (.getfield 19, 3) := by decide +kernel
theorem dX7_sell_42 : decode cX7_sell 42 = .ok (.getfield 177, 3) := by decide +kernel
theorem dX7_sell_45 : decode cX7_sell 45 = .ok (.iload 5, 2) := by decide +kernel
theorem dX7_sell_47 : decode cX7_sell 47 = .ok (.iaload, 1) := by decide +kernel
theorem dX7_sell_48 : decode cX7_sell 48 = .ok (.istore 6, 2) := by decide +kernel
theorem dX7_sell_50 : decode cX7_sell 50 = .ok (.aload_n 0, 1) := by decide +kernel
theorem dX7_sell_51 : decode cX7_sell 51 = .ok (.getfield 19, 3) := by decide +kernel
theorem dX7_sell_54 : decode cX7_sell 54 = .ok (.getfield 174, 3) := by decide +kernel
theorem dX7_sell_57 : decode cX7_sell 57 = .ok (.iload 5, 2) := by decide +kernel
theorem dX7_sell_59 : decode cX7_sell 59 = .ok (.iaload, 1) := by decide +kernel
theorem dX7_sell_60 : decode cX7_sell 60 = .ok (.ifCond .ne 29, 3) := by decide +kernel
theorem dX7_sell_63 : decode cX7_sell 63 = .ok (.iload 6, 2) := by decide +kernel
theorem dX7_sell_65 : decode cX7_sell 65 = .ok (.iconst (-1), 1) := by decide +kernel
theorem dX7_sell_66 : decode cX7_sell 66 = .ok (.if_icmp .eq 23, 3) := by decide +kernel
theorem dX7_sell_69 : decode cX7_sell 69 = .ok (.iload 6, 2) := by decide +kernel
theorem dX7_sell_71 : decode cX7_sell 71 = .ok (.iload_n 3, 1) := by decide +kernel
theorem dX7_sell_72 : decode cX7_sell 72 = .ok (.if_icmp .eq 17, 3) := by decide +kernel
theorem dX7_sell_75 : decode cX7_sell 75 = .ok (.aload_n 0, 1) := by decide +kernel
theorem dX7_sell_76 : decode cX7_sell 76 = .ok (.getfield 19, 3) := by decide +kernel
theorem dX7_sell_79 : decode cX7_sell 79 = .ok (.getfield 159, 3) := by decide +kernel
theorem dX7_sell_82 : decode cX7_sell 82 = .ok (.iload_n 3, 1) := by decide +kernel
theorem dX7_sell_83 : decode cX7_sell 83 = .ok (.iaload, 1) := by decide +kernel
theorem dX7_sell_84 : decode cX7_sell 84 = .ok (.iload 4, 2) := by decide +kernel
theorem dX7_sell_86 : decode cX7_sell 86 = .ok (.if_icmp .ge 5, 3) := by decide +kernel
theorem dX7_sell_89 : decode cX7_sell 89 = .ok (.iconst 0, 1) := by decide +kernel
theorem dX7_sell_90 : decode cX7_sell 90 = .ok (.ireturn, 1) := by decide +kernel
theorem dX7_sell_91 : decode cX7_sell 91 = .ok (.aload_n 0, 1) := by decide +kernel
theorem dX7_sell_92 : decode cX7_sell 92 = .ok (.invokevirtual 199, 3) := by decide +kernel
theorem dX7_sell_95 : decode cX7_sell 95 = .ok (.aload_n 0, 1) := by decide +kernel
theorem dX7_sell_96 : decode cX7_sell 96 = .ok (.getfield 19, 3) := by decide +kernel
theorem dX7_sell_99 : decode cX7_sell 99 = .ok (.getfield 159, 3) := by decide +kernel
theorem dX7_sell_102 : decode cX7_sell 102 = .ok (.iload_n 3, 1) := by decide +kernel
theorem dX7_sell_103 : decode cX7_sell 103 = .ok (.dup2, 1) := by decide +kernel
theorem dX7_sell_104 : decode cX7_sell 104 = .ok (.iaload, 1) := by decide +kernel
theorem dX7_sell_105 : decode cX7_sell 105 = .ok (.iload 4, 2) := by decide +kernel
theorem dX7_sell_107 : decode cX7_sell 107 = .ok (.isub, 1) := by decide +kernel
theorem dX7_sell_108 : decode cX7_sell 108 = .ok (.iastore, 1) := by decide +kernel
theorem dX7_sell_109 : decode cX7_sell 109 = .ok (.aload_n 0, 1) := by decide +kernel
theorem dX7_sell_110 : decode cX7_sell 110 = .ok (.getfield 19, 3) := by decide +kernel
theorem dX7_sell_113 : decode cX7_sell 113 = .ok (.iload 6, 2) := by decide +kernel
theorem dX7_sell_115 : decode cX7_sell 115 = .ok (.iload 4, 2) := by decide +kernel
theorem dX7_sell_117 : decode cX7_sell 117 = .ok (.invokevirtual 238, 3) := by decide +kernel
theorem dX7_sell_120 : decode cX7_sell 120 = .ok (.aload_n 0, 1) := by decide +kernel
theorem dX7_sell_121 : decode cX7_sell 121 = .ok (.getfield 19, 3) := by decide +kernel
theorem dX7_sell_124 : decode cX7_sell 124 = .ok (.getfield 177, 3) := by decide +kernel
theorem dX7_sell_127 : decode cX7_sell 127 = .ok (.iload 5, 2) := by decide +kernel
theorem dX7_sell_129 : decode cX7_sell 129 = .ok (.iload_n 3, 1) := by decide +kernel
theorem dX7_sell_130 : decode cX7_sell 130 = .ok (.iastore, 1) := by decide +kernel
theorem dX7_sell_131 : decode cX7_sell 131 = .ok (.iconst 1, 1) := by decide +kernel
theorem dX7_sell_132 : decode cX7_sell 132 = .ok (.ireturn, 1) := by decide +kernel
abbrev rX7_sell : Room := { frames := 3, cells := 10, slots := 1152, locals := 83 }
theorem cal_X7_sell : CalOk yX7_sell cX7_sell 7 (some .boolean) 4 := ⟨wm_4_35, wm_1_1, by decide, by decide, by decide +kernel⟩
def f_X7_sell (p0 : Nat) (p1 : Int32) (p2 : Int32) (p3 : Int32) (p4 : Int32) (M : Mm) : Option (Int32 × Mm) :=
  ck (gK M p0 = 7) (bd (f_X7_isBond p0 p1 p2 M) fun v2 M1 =>
  (if v2 = 0 then
    some ((0 : Int32), M1)
  else
    ck (gK M1 p0 = 7) (bd (f_X7_isHolder p0 p3 M1) fun v4 M3 =>
    (if v4 = 0 then
      some ((0 : Int32), M3)
    else
      (if p4 < 0 then
        some ((0 : Int32), M3)
      else
        (if p4 ≤ (99999 : Int32) then
          bd (f_X7_spotOf p1 p2 M3) fun v6 M5 =>
          ck (gK M5 p0 = 7) (bR (gR M5 p0 1) fun q7 => ck (gK M5 q7 = 5) (bR (gR M5 q7 7) fun q8 => ck (gK M5 q8 = 10 ∧ inb v6 (gN M5 q8)) (nm (gI M5 q8 (v6).toNatClampNeg) fun v9 =>
          ck (gK M5 p0 = 7) (bR (gR M5 p0 1) fun q10 => ck (gK M5 q10 = 5) (bR (gR M5 q10 6) fun q11 => ck (gK M5 q11 = 10 ∧ inb v6 (gN M5 q11)) ((if ¬ (gI M5 q11 (v6).toNatClampNeg) = 0 then
            some ((0 : Int32), M5)
          else
            (if v9 = (-1 : Int32) then
              some ((0 : Int32), M5)
            else
              (if v9 = p3 then
                some ((0 : Int32), M5)
              else
                ck (gK M5 p0 = 7) (bR (gR M5 p0 1) fun q12 => ck (gK M5 q12 = 5) (bR (gR M5 q12 1) fun q13 => ck (gK M5 q13 = 10 ∧ inb p3 (gN M5 q13)) ((if p4 ≤ (gI M5 q13 (p3).toNatClampNeg) then
                  ck (gK M5 p0 = 7) (bd (f_X7_remember p0 M5) fun _ M14 =>
                  ck (gK M14 p0 = 7) (bR (gR M14 p0 1) fun q15 => ck (gK M14 q15 = 5) (bR (gR M14 q15 1) fun q16 => ck (gK M14 q16 = 10 ∧ inb p3 (gN M14 q16)) (ck (gK M14 q16 = 10 ∧ inb p3 (gN M14 q16)) (nm (sI M14 q16 (p3).toNatClampNeg ((gI M14 q16 (p3).toNatClampNeg) - p4)) fun M17 =>
                  ck (gK M17 p0 = 7) (bR (gR M17 p0 1) fun q18 => ck (gK M17 q18 = 5) (bd (f_X5_pay q18 v9 p4 M17) fun _ M19 =>
                  ck (gK M19 p0 = 7) (bR (gR M19 p0 1) fun q20 => ck (gK M19 q20 = 5) (bR (gR M19 q20 7) fun q21 => ck (gK M19 q21 = 10 ∧ inb v6 (gN M19 q21)) (nm (sI M19 q21 (v6).toNatClampNeg p3) fun M22 =>
                  some ((1 : Int32), M22)))))))))))
                else
                  some ((0 : Int32), M5))))))))))))))
        else
          some ((0 : Int32), M3)))))))
set_option maxRecDepth 20000 in
set_option maxHeartbeats 4000000 in
theorem t_X7_sell (p0 : Nat) (p1 : Int32) (p2 : Int32) (p3 : Int32) (p4 : Int32) (M : Mm) (x : Int32) (M' : Mm) (h : f_X7_sell p0 p1 p2 p3 p4 M = some (x, M')) : Ctr yX7_sell cX7_sell 7 (some .boolean) rX7_sell (fun _ => [.ref p0, .int p1, .int p2, .int p3, .int p4]) M (zI x) M' := by
  refine ctr_of (plainFor_of_name (by decide)) (fun _ => Nat.le_of_ble_eq_true rfl) (fun z hz hin hq => ?_)
  have key : Sim z 0 [(0, .ref p0), (1, .int p1), (2, .int p2), (3, .int p3), (4, .int p4)] [] M 0 0 (f_X7_sell p0 p1 p2 p3 p4 M) (fun a b => a = x ∧ b = M') := by
    have hq : Ret z zI (fun a b => a = x ∧ b = M') := fun a b e => by rw [e.1, e.2]; exact hq
    unfold f_X7_sell
    refine r_aload_n hz dX7_sell_0 0 rfl ?_
    refine r_iload_n hz dX7_sell_1 1 rfl ?_
    refine r_iload_n hz dX7_sell_2 2 rfl ?_
    refine r_callVi (As := fun _ => [.int p1, .int p2]) cl7 hz (fun _ _ h => t_X7_isBond _ _ _ _ _ _ h) cal_X7_isBond dX7_sell_3 wm_3_161 wm_3_163 wm_p_26 rfl rfl (Nat.le_of_ble_eq_true rfl) ⟨(Nat.le_of_ble_eq_true rfl), (Nat.le_of_ble_eq_true rfl)⟩ ⟨(Nat.le_of_ble_eq_true rfl), (Nat.le_of_ble_eq_true rfl)⟩ (fun v2 M1 => ?_)
    refine r_if_eq (tgt := 29) hz dX7_sell_6 rfl ?_ ?_
    · refine r_iconst (v := 0) hz dX7_sell_29 rfl ?_
      exact r_zret hz hq dX7_sell_30 (Or.inl rfl) (Nat.le_of_ble_eq_true rfl) (Nat.le_of_ble_eq_true rfl)
    · refine r_aload_n hz dX7_sell_9 0 rfl ?_
      refine r_iload_n hz dX7_sell_10 3 rfl ?_
      refine r_callVi (As := fun _ => [.int p3]) cl7 hz (fun _ _ h => t_X7_isHolder _ _ _ _ _ h) cal_X7_isHolder dX7_sell_11 wm_3_141 wm_3_143 wm_p_24 rfl rfl (Nat.le_of_ble_eq_true rfl) ⟨(Nat.le_of_ble_eq_true rfl), (Nat.le_of_ble_eq_true rfl)⟩ ⟨(Nat.le_of_ble_eq_true rfl), (Nat.le_of_ble_eq_true rfl)⟩ (fun v4 M3 => ?_)
      refine r_if_eq (tgt := 29) hz dX7_sell_14 rfl ?_ ?_
      · refine r_iconst (v := 0) hz dX7_sell_29 rfl ?_
        exact r_zret hz hq dX7_sell_30 (Or.inl rfl) (Nat.le_of_ble_eq_true rfl) (Nat.le_of_ble_eq_true rfl)
      · refine r_iload hz dX7_sell_17 4 rfl ?_
        refine r_if_lt (tgt := 29) hz dX7_sell_19 rfl ?_ ?_
        · refine r_iconst (v := 0) hz dX7_sell_29 rfl ?_
          exact r_zret hz hq dX7_sell_30 (Or.inl rfl) (Nat.le_of_ble_eq_true rfl) (Nat.le_of_ble_eq_true rfl)
        · refine r_iload hz dX7_sell_22 4 rfl ?_
          refine r_ldc (v := 99999) hz dX7_sell_24 wm_4_36 ?_
          refine r_icmp_le (tgt := 31) hz dX7_sell_26 rfl ?_ ?_
          · refine r_iload_n hz dX7_sell_31 1 rfl ?_
            refine r_iload_n hz dX7_sell_32 2 rfl ?_
            refine r_callSi (As := fun _ => [.int p1, .int p2]) hz (fun _ _ h => t_X7_spotOf _ _ _ _ _ h) cal_X7_spotOf dX7_sell_33 wm_3_165 wm_3_78 rfl rfl (Nat.le_of_ble_eq_true rfl) ⟨(Nat.le_of_ble_eq_true rfl), (Nat.le_of_ble_eq_true rfl)⟩ ⟨(Nat.le_of_ble_eq_true rfl), (Nat.le_of_ble_eq_true rfl)⟩ (fun v6 M5 => ?_)
            refine r_istore (lv' := [(5, .int v6), (0, .ref p0), (1, .int p1), (2, .int p2), (3, .int p3), (4, .int p4)]) hz dX7_sell_36 (by decide) rfl ?_
            refine r_aload_n hz dX7_sell_38 1 rfl ?_
            refine r_getR (j := 1) cl7 hz dX7_sell_39 (by decide) wm_2_105 rfl (fun q7 => ?_)
            refine r_getR (j := 7) cl5 hz dX7_sell_42 (by decide) wm_1_160 rfl (fun q8 => ?_)
            refine r_iload hz dX7_sell_45 0 rfl ?_
            refine r_iald hz dX7_sell_47 ?_
            refine r_nmi (fun v9 => ?_)
            refine r_istore (lv' := [(6, .int v9), (5, .int v6), (0, .ref p0), (1, .int p1), (2, .int p2), (3, .int p3), (4, .int p4)]) hz dX7_sell_48 (by decide) rfl ?_
            refine r_aload_n hz dX7_sell_50 2 rfl ?_
            refine r_getR (j := 1) cl7 hz dX7_sell_51 (by decide) wm_2_105 rfl (fun q10 => ?_)
            refine r_getR (j := 6) cl5 hz dX7_sell_54 (by decide) wm_1_157 rfl (fun q11 => ?_)
            refine r_iload hz dX7_sell_57 1 rfl ?_
            refine r_iald hz dX7_sell_59 ?_
            refine r_if_ne (tgt := 89) hz dX7_sell_60 rfl ?_ ?_
            · refine r_iconst (v := 0) hz dX7_sell_89 rfl ?_
              exact r_zret hz hq dX7_sell_90 (Or.inl rfl) (Nat.le_of_ble_eq_true rfl) (Nat.le_of_ble_eq_true rfl)
            · refine r_iload hz dX7_sell_63 0 rfl ?_
              refine r_iconst (v := -1) hz dX7_sell_65 rfl ?_
              refine r_icmp_eq (tgt := 89) hz dX7_sell_66 rfl ?_ ?_
              · refine r_iconst (v := 0) hz dX7_sell_89 rfl ?_
                exact r_zret hz hq dX7_sell_90 (Or.inl rfl) (Nat.le_of_ble_eq_true rfl) (Nat.le_of_ble_eq_true rfl)
              · refine r_iload hz dX7_sell_69 0 rfl ?_
                refine r_iload_n hz dX7_sell_71 5 rfl ?_
                refine r_icmp_eq (tgt := 89) hz dX7_sell_72 rfl ?_ ?_
                · refine r_iconst (v := 0) hz dX7_sell_89 rfl ?_
                  exact r_zret hz hq dX7_sell_90 (Or.inl rfl) (Nat.le_of_ble_eq_true rfl) (Nat.le_of_ble_eq_true rfl)
                · refine r_aload_n hz dX7_sell_75 2 rfl ?_
                  refine r_getR (j := 1) cl7 hz dX7_sell_76 (by decide) wm_2_105 rfl (fun q12 => ?_)
                  refine r_getR (j := 1) cl5 hz dX7_sell_79 (by decide) wm_1_144 rfl (fun q13 => ?_)
                  refine r_iload_n hz dX7_sell_82 5 rfl ?_
                  refine r_iald hz dX7_sell_83 ?_
                  refine r_iload hz dX7_sell_84 6 rfl ?_
                  refine r_icmp_ge (tgt := 91) hz dX7_sell_86 rfl ?_ ?_
                  · refine r_aload_n hz dX7_sell_91 2 rfl ?_
                    refine r_callVv (As := fun _ => []) cl7 hz (fun _ _ h => t_X7_remember _ _ _ _ h) cal_X7_remember dX7_sell_92 wm_3_196 wm_3_198 wm_p_30 rfl rfl (Nat.le_of_ble_eq_true rfl) ⟨(Nat.le_of_ble_eq_true rfl), (Nat.le_of_ble_eq_true rfl)⟩ ⟨(Nat.le_of_ble_eq_true rfl), (Nat.le_of_ble_eq_true rfl)⟩ (fun _ M14 => ?_)
                    refine r_aload_n hz dX7_sell_95 2 rfl ?_
                    refine r_getR (j := 1) cl7 hz dX7_sell_96 (by decide) wm_2_105 rfl (fun q15 => ?_)
                    refine r_getR (j := 1) cl5 hz dX7_sell_99 (by decide) wm_1_144 rfl (fun q16 => ?_)
                    refine r_iload_n hz dX7_sell_102 5 rfl ?_
                    refine r_dup2 hz dX7_sell_103 rfl rfl ?_
                    refine r_iald hz dX7_sell_104 ?_
                    refine r_iload hz dX7_sell_105 6 rfl ?_
                    refine r_isub hz dX7_sell_107 ?_
                    refine r_iast hz dX7_sell_108 ?_
                    refine r_nmM (fun M17 => ?_)
                    refine r_aload_n hz dX7_sell_109 2 rfl ?_
                    refine r_getR (j := 1) cl7 hz dX7_sell_110 (by decide) wm_2_105 rfl (fun q18 => ?_)
                    refine r_iload hz dX7_sell_113 0 rfl ?_
                    refine r_iload hz dX7_sell_115 6 rfl ?_
                    refine r_callVv (As := fun _ => [.int v9, .int p4]) cl5 hz (fun _ _ h => t_X5_pay _ _ _ _ _ _ h) cal_X5_pay dX7_sell_117 wm_4_0 wm_4_1 wm_4_2 rfl rfl (Nat.le_of_ble_eq_true rfl) ⟨(Nat.le_of_ble_eq_true rfl), (Nat.le_of_ble_eq_true rfl)⟩ ⟨(Nat.le_of_ble_eq_true rfl), (Nat.le_of_ble_eq_true rfl)⟩ (fun _ M19 => ?_)
                    refine r_aload_n hz dX7_sell_120 2 rfl ?_
                    refine r_getR (j := 1) cl7 hz dX7_sell_121 (by decide) wm_2_105 rfl (fun q20 => ?_)
                    refine r_getR (j := 7) cl5 hz dX7_sell_124 (by decide) wm_1_160 rfl (fun q21 => ?_)
                    refine r_iload hz dX7_sell_127 1 rfl ?_
                    refine r_iload_n hz dX7_sell_129 5 rfl ?_
                    refine r_iast hz dX7_sell_130 ?_
                    refine r_nmM (fun M22 => ?_)
                    refine r_iconst (v := 1) hz dX7_sell_131 rfl ?_
                    exact r_zret hz hq dX7_sell_132 (Or.inr rfl) (Nat.le_of_ble_eq_true rfl) (Nat.le_of_ble_eq_true rfl)
                  · refine r_iconst (v := 0) hz dX7_sell_89 rfl ?_
                    exact r_zret hz hq dX7_sell_90 (Or.inl rfl) (Nat.le_of_ble_eq_true rfl) (Nat.le_of_ble_eq_true rfl)
          · refine r_iconst (v := 0) hz dX7_sell_29 rfl ?_
            exact r_zret hz hq dX7_sell_30 (Or.inl rfl) (Nat.le_of_ble_eq_true rfl) (Nat.le_of_ble_eq_true rfl)
  exact key x M' h ⟨rfl, rfl⟩
theorem dX7_isOver_0 : decode cX7_isOver 0 = .ok (.aload_n 0, 1) := by decide +kernel
theorem dX7_isOver_1 : decode cX7_isOver 1 = .ok (.getfield 19, 3) := by decide +kernel
theorem dX7_isOver_4 : decode cX7_isOver 4 = .ok (.getfield 102, 3) := by decide +kernel
theorem dX7_isOver_7 : decode cX7_isOver 7 = .ok (.aload_n 0, 1) := by decide +kernel
theorem dX7_isOver_8 : decode cX7_isOver 8 = .ok (.getfield 10, 3) := by decide +kernel
theorem dX7_isOver_11 : decode cX7_isOver 11 = .ok (.getfield 137, 3) := by decide +kernel
theorem dX7_isOver_14 : decode cX7_isOver 14 = .ok (.iload_n 1, 1) := by decide +kernel
theorem dX7_isOver_15 : decode cX7_isOver 15 = .ok (.iaload, 1) := by decide +kernel
theorem dX7_isOver_16 : decode cX7_isOver 16 = .ok (.if_icmp .lt 7, 3) := by decide +kernel
theorem dX7_isOver_19 : decode cX7_isOver 19 = .ok (.iconst 1, 1) := by decide +kernel
theorem dX7_isOver_20 : decode cX7_isOver 20 = .ok (.goto 4, 3) := by decide +kernel
theorem dX7_isOver_23 : decode cX7_isOver 23 = .ok (.iconst 0, 1) := by decide +kernel
theorem dX7_isOver_24 : decode cX7_isOver 24 = .ok (.ireturn, 1) := by decide +kernel
abbrev rX7_isOver : Room := { frames := 0, cells := 0, slots := 0, locals := 0 }
theorem cal_X7_isOver : CalOk yX7_isOver cX7_isOver 2 (some .boolean) 1 := ⟨wm_4_44, wm_1_1, by decide, by decide, by decide +kernel⟩
def f_X7_isOver (p0 : Nat) (p1 : Int32) (M : Mm) : Option (Int32 × Mm) :=
  ck (gK M p0 = 7) (bR (gR M p0 1) fun q1 => ck (gK M q1 = 5) (ck (gK M p0 = 7) (bR (gR M p0 0) fun q2 => ck (gK M q2 = 6) (bR (gR M q2 9) fun q3 => ck (gK M q3 = 10 ∧ inb p1 (gN M q3)) ((if (gI M q1 0) < (gI M q3 (p1).toNatClampNeg) then
    some ((0 : Int32), M)
  else
    some ((1 : Int32), M)))))))
set_option maxRecDepth 20000 in
set_option maxHeartbeats 4000000 in
theorem t_X7_isOver (p0 : Nat) (p1 : Int32) (M : Mm) (x : Int32) (M' : Mm) (h : f_X7_isOver p0 p1 M = some (x, M')) : Ctr yX7_isOver cX7_isOver 2 (some .boolean) rX7_isOver (fun _ => [.ref p0, .int p1]) M (zI x) M' := by
  refine ctr_of (plainFor_of_name (by decide)) (fun _ => Nat.le_of_ble_eq_true rfl) (fun z hz hin hq => ?_)
  have key : Sim z 0 [(0, .ref p0), (1, .int p1)] [] M 0 0 (f_X7_isOver p0 p1 M) (fun a b => a = x ∧ b = M') := by
    have hq : Ret z zI (fun a b => a = x ∧ b = M') := fun a b e => by rw [e.1, e.2]; exact hq
    unfold f_X7_isOver
    refine r_aload_n hz dX7_isOver_0 0 rfl ?_
    refine r_getR (j := 1) cl7 hz dX7_isOver_1 (by decide) wm_2_105 rfl (fun q1 => ?_)
    refine r_getI (j := 0) cl5 hz dX7_isOver_4 (by decide) wm_1_142 rfl ?_
    refine r_aload_n hz dX7_isOver_7 0 rfl ?_
    refine r_getR (j := 0) cl7 hz dX7_isOver_8 (by decide) wm_2_104 rfl (fun q2 => ?_)
    refine r_getR (j := 9) cl6 hz dX7_isOver_11 (by decide) wm_1_71 rfl (fun q3 => ?_)
    refine r_iload_n hz dX7_isOver_14 1 rfl ?_
    refine r_iald hz dX7_isOver_15 ?_
    refine r_icmp_lt (tgt := 23) hz dX7_isOver_16 rfl ?_ ?_
    · refine r_iconst (v := 0) hz dX7_isOver_23 rfl ?_
      exact r_zret hz hq dX7_isOver_24 (Or.inl rfl) (Nat.le_of_ble_eq_true rfl) (Nat.le_of_ble_eq_true rfl)
    · refine r_iconst (v := 1) hz dX7_isOver_19 rfl ?_
      refine r_goto (tgt := 24) hz dX7_isOver_20 rfl ?_
      exact r_zret hz hq dX7_isOver_24 (Or.inr rfl) (Nat.le_of_ble_eq_true rfl) (Nat.le_of_ble_eq_true rfl)
  exact key x M' h ⟨rfl, rfl⟩
theorem dX7_put_0 : decode cX7_put 0 = .ok (.aload_n 0, 1) := by decide +kernel
theorem dX7_put_1 : decode cX7_put 1 = .ok (.iload_n 1, 1) := by decide +kernel
theorem dX7_put_2 : decode cX7_put 2 = .ok (.invokevirtual 116, 3) := by decide +kernel
theorem dX7_put_5 : decode cX7_put 5 = .ok (.ifCond .eq 35, 3) := by decide +kernel
theorem dX7_put_8 : decode cX7_put 8 = .ok (.iload_n 2, 1) := by decide +kernel
theorem dX7_put_9 : decode cX7_put 9 = .ok (.iconst 1, 1) := by decide +kernel
theorem dX7_put_10 : decode cX7_put 10 = .ok (.if_icmp .lt 30, 3) := by decide +kernel
theorem dX7_put_13 : decode cX7_put 13 = .ok (.iload_n 2, 1) := by decide +kernel
theorem dX7_put_14 : decode cX7_put 14 = .ok (.ldc 249, 2) := by decide +kernel
theorem dX7_put_16 : decode cX7_put 16 = .ok (.if_icmp .gt 24, 3) := by decide +kernel
theorem dX7_put_19 : decode cX7_put 19 = .ok (.aload_n 0, 1) := by decide +kernel
theorem dX7_put_20 : decode cX7_put 20 = .ok (.getfield 10, 3) := by decide +kernel
theorem dX7_put_23 : decode cX7_put 23 = .ok (.getfield 139, 3) := by decide +kernel
theorem dX7_put_26 : decode cX7_put 26 = .ok (.iload_n 1, 1) := by decide +kernel
theorem dX7_put_27 : decode cX7_put 27 = .ok (.iaload, 1) := by decide +kernel
theorem dX7_put_28 : decode cX7_put 28 = .ok (.iconst 1, 1) := by decide +kernel
theorem dX7_put_29 : decode cX7_put 29 = .ok (.if_icmp .ne 11, 3) := by decide +kernel
theorem dX7_put_32 : decode cX7_put 32 = .ok (.aload_n 0, 1) := by decide +kernel
theorem dX7_put_33 : decode cX7_put 33 = .ok (.iload_n 1, 1) := by decide +kernel
theorem dX7_put_34 : decode cX7_put 34 = .ok (.invokevirtual 250, 3) := by decide +kernel
theorem dX7_put_37 : decode cX7_put 37 = .ok (.ifCond .eq 5, 3) := by decide +kernel
theorem dX7_put_40 : decode cX7_put 40 = .ok (.iconst (-1), 1) := by decide +kernel
theorem dX7_put_41 : decode cX7_put 41 = .ok (.ireturn, 1) := by decide +kernel
theorem dX7_put_42 : decode cX7_put 42 = .ok (.aload_n 0, 1) := by decide +kernel
theorem dX7_put_43 : decode cX7_put 43 = .ok (.invokevirtual 199, 3) := by decide +kernel
theorem dX7_put_46 : decode cX7_put 46 = .ok (.aload_n 0, 1) := by decide +kernel
theorem dX7_put_47 : decode cX7_put 47 = .ok (.getfield 19, 3) := by decide +kernel
theorem dX7_put_50 : decode cX7_put 50 = .ok (.getfield 151, 3) := by decide +kernel
theorem dX7_put_53 : decode cX7_put 53 = .ok (.iload_n 1, 1) := by decide +kernel
theorem dX7_put_54 : decode cX7_put 54 = .ok (.dup2, 1) := by decide +kernel
theorem dX7_put_55 : decode cX7_put 55 = .ok (.iaload, 1) := by decide +kernel
theorem dX7_put_56 : decode cX7_put 56 = .ok (.iload_n 2, 1) := by decide +kernel
theorem dX7_put_57 : decode cX7_put 57 = .ok (.iadd, 1) := by decide +kernel
theorem dX7_put_58 : decode cX7_put 58 = .ok (.iastore, 1) := by decide +kernel
theorem dX7_put_59 : decode cX7_put 59 = .ok (.aload_n 0, 1) := by decide +kernel
theorem dX7_put_60 : decode cX7_put 60 = .ok (.getfield 19, 3) := by decide +kernel
theorem dX7_put_63 : decode cX7_put 63 = .ok (.getfield 151, 3) := by decide +kernel
theorem dX7_put_66 : decode cX7_put 66 = .ok (.iload_n 1, 1) := by decide +kernel
theorem dX7_put_67 : decode cX7_put 67 = .ok (.iaload, 1) := by decide +kernel
theorem dX7_put_68 : decode cX7_put 68 = .ok (.ireturn, 1) := by decide +kernel
abbrev rX7_put : Room := { frames := 3, cells := 10, slots := 1152, locals := 83 }
theorem cal_X7_put : CalOk yX7_put cX7_put 3 (some .int) 2 := ⟨wm_4_40, wm_1_1, by decide, by decide, by decide +kernel⟩
def f_X7_put (p0 : Nat) (p1 : Int32) (p2 : Int32) (M : Mm) : Option (Int32 × Mm) :=
  ck (gK M p0 = 7) (bd (f_X7_isLoan p0 p1 M) fun v2 M1 =>
  (if v2 = 0 then
    some ((-1 : Int32), M1)
  else
    (if p2 < (1 : Int32) then
      some ((-1 : Int32), M1)
    else
      (if (99999 : Int32) < p2 then
        some ((-1 : Int32), M1)
      else
        ck (gK M1 p0 = 7) (bR (gR M1 p0 0) fun q3 => ck (gK M1 q3 = 6) (bR (gR M1 q3 10) fun q4 => ck (gK M1 q4 = 10 ∧ inb p1 (gN M1 q4)) ((if ¬ (gI M1 q4 (p1).toNatClampNeg) = (1 : Int32) then
          some ((-1 : Int32), M1)
        else
          ck (gK M1 p0 = 7) (bd (f_X7_isOver p0 p1 M1) fun v6 M5 =>
          (if v6 = 0 then
            ck (gK M5 p0 = 7) (bd (f_X7_remember p0 M5) fun _ M7 =>
            ck (gK M7 p0 = 7) (bR (gR M7 p0 1) fun q8 => ck (gK M7 q8 = 5) (bR (gR M7 q8 3) fun q9 => ck (gK M7 q9 = 10 ∧ inb p1 (gN M7 q9)) (ck (gK M7 q9 = 10 ∧ inb p1 (gN M7 q9)) (nm (sI M7 q9 (p1).toNatClampNeg ((gI M7 q9 (p1).toNatClampNeg) + p2)) fun M10 =>
            ck (gK M10 p0 = 7) (bR (gR M10 p0 1) fun q11 => ck (gK M10 q11 = 5) (bR (gR M10 q11 3) fun q12 => ck (gK M10 q12 = 10 ∧ inb p1 (gN M10 q12)) (some ((gI M10 q12 (p1).toNatClampNeg), M10)))))))))
          else
            some ((-1 : Int32), M5)))))))))))
set_option maxRecDepth 20000 in
set_option maxHeartbeats 4000000 in
theorem t_X7_put (p0 : Nat) (p1 : Int32) (p2 : Int32) (M : Mm) (x : Int32) (M' : Mm) (h : f_X7_put p0 p1 p2 M = some (x, M')) : Ctr yX7_put cX7_put 3 (some .int) rX7_put (fun _ => [.ref p0, .int p1, .int p2]) M (zI x) M' := by
  refine ctr_of (plainFor_of_name (by decide)) (fun _ => Nat.le_of_ble_eq_true rfl) (fun z hz hin hq => ?_)
  have key : Sim z 0 [(0, .ref p0), (1, .int p1), (2, .int p2)] [] M 0 0 (f_X7_put p0 p1 p2 M) (fun a b => a = x ∧ b = M') := by
    have hq : Ret z zI (fun a b => a = x ∧ b = M') := fun a b e => by rw [e.1, e.2]; exact hq
    unfold f_X7_put
    refine r_aload_n hz dX7_put_0 0 rfl ?_
    refine r_iload_n hz dX7_put_1 1 rfl ?_
    refine r_callVi (As := fun _ => [.int p1]) cl7 hz (fun _ _ h => t_X7_isLoan _ _ _ _ _ h) cal_X7_isLoan dX7_put_2 wm_3_149 wm_3_151 wm_p_25 rfl rfl (Nat.le_of_ble_eq_true rfl) ⟨(Nat.le_of_ble_eq_true rfl), (Nat.le_of_ble_eq_true rfl)⟩ ⟨(Nat.le_of_ble_eq_true rfl), (Nat.le_of_ble_eq_true rfl)⟩ (fun v2 M1 => ?_)
    refine r_if_eq (tgt := 40) hz dX7_put_5 rfl ?_ ?_
    · refine r_iconst (v := -1) hz dX7_put_40 rfl ?_
      exact r_iret hz hq dX7_put_41 (Nat.le_of_ble_eq_true rfl) (Nat.le_of_ble_eq_true rfl)
    · refine r_iload_n hz dX7_put_8 2 rfl ?_
      refine r_iconst (v := 1) hz dX7_put_9 rfl ?_
      refine r_icmp_lt (tgt := 40) hz dX7_put_10 rfl ?_ ?_
      · refine r_iconst (v := -1) hz dX7_put_40 rfl ?_
        exact r_iret hz hq dX7_put_41 (Nat.le_of_ble_eq_true rfl) (Nat.le_of_ble_eq_true rfl)
      · refine r_iload_n hz dX7_put_13 2 rfl ?_
        refine r_ldc (v := 99999) hz dX7_put_14 wm_4_36 ?_
        refine r_icmp_gt (tgt := 40) hz dX7_put_16 rfl ?_ ?_
        · refine r_iconst (v := -1) hz dX7_put_40 rfl ?_
          exact r_iret hz hq dX7_put_41 (Nat.le_of_ble_eq_true rfl) (Nat.le_of_ble_eq_true rfl)
        · refine r_aload_n hz dX7_put_19 0 rfl ?_
          refine r_getR (j := 0) cl7 hz dX7_put_20 (by decide) wm_2_104 rfl (fun q3 => ?_)
          refine r_getR (j := 10) cl6 hz dX7_put_23 (by decide) wm_1_75 rfl (fun q4 => ?_)
          refine r_iload_n hz dX7_put_26 1 rfl ?_
          refine r_iald hz dX7_put_27 ?_
          refine r_iconst (v := 1) hz dX7_put_28 rfl ?_
          refine r_icmp_ne (tgt := 40) hz dX7_put_29 rfl ?_ ?_
          · refine r_iconst (v := -1) hz dX7_put_40 rfl ?_
            exact r_iret hz hq dX7_put_41 (Nat.le_of_ble_eq_true rfl) (Nat.le_of_ble_eq_true rfl)
          · refine r_aload_n hz dX7_put_32 0 rfl ?_
            refine r_iload_n hz dX7_put_33 1 rfl ?_
            refine r_callVi (As := fun _ => [.int p1]) cl7 hz (fun _ _ h => t_X7_isOver _ _ _ _ _ h) cal_X7_isOver dX7_put_34 wm_4_41 wm_4_43 wm_p_36 rfl rfl (Nat.le_of_ble_eq_true rfl) ⟨(Nat.le_of_ble_eq_true rfl), (Nat.le_of_ble_eq_true rfl)⟩ ⟨(Nat.le_of_ble_eq_true rfl), (Nat.le_of_ble_eq_true rfl)⟩ (fun v6 M5 => ?_)
            refine r_if_eq (tgt := 42) hz dX7_put_37 rfl ?_ ?_
            · refine r_aload_n hz dX7_put_42 0 rfl ?_
              refine r_callVv (As := fun _ => []) cl7 hz (fun _ _ h => t_X7_remember _ _ _ _ h) cal_X7_remember dX7_put_43 wm_3_196 wm_3_198 wm_p_30 rfl rfl (Nat.le_of_ble_eq_true rfl) ⟨(Nat.le_of_ble_eq_true rfl), (Nat.le_of_ble_eq_true rfl)⟩ ⟨(Nat.le_of_ble_eq_true rfl), (Nat.le_of_ble_eq_true rfl)⟩ (fun _ M7 => ?_)
              refine r_aload_n hz dX7_put_46 0 rfl ?_
              refine r_getR (j := 1) cl7 hz dX7_put_47 (by decide) wm_2_105 rfl (fun q8 => ?_)
              refine r_getR (j := 3) cl5 hz dX7_put_50 (by decide) wm_1_149 rfl (fun q9 => ?_)
              refine r_iload_n hz dX7_put_53 1 rfl ?_
              refine r_dup2 hz dX7_put_54 rfl rfl ?_
              refine r_iald hz dX7_put_55 ?_
              refine r_iload_n hz dX7_put_56 2 rfl ?_
              refine r_iadd hz dX7_put_57 ?_
              refine r_iast hz dX7_put_58 ?_
              refine r_nmM (fun M10 => ?_)
              refine r_aload_n hz dX7_put_59 0 rfl ?_
              refine r_getR (j := 1) cl7 hz dX7_put_60 (by decide) wm_2_105 rfl (fun q11 => ?_)
              refine r_getR (j := 3) cl5 hz dX7_put_63 (by decide) wm_1_149 rfl (fun q12 => ?_)
              refine r_iload_n hz dX7_put_66 1 rfl ?_
              refine r_iald hz dX7_put_67 ?_
              exact r_iret hz hq dX7_put_68 (Nat.le_of_ble_eq_true rfl) (Nat.le_of_ble_eq_true rfl)
            · refine r_iconst (v := -1) hz dX7_put_40 rfl ?_
              exact r_iret hz hq dX7_put_41 (Nat.le_of_ble_eq_true rfl) (Nat.le_of_ble_eq_true rfl)
  exact key x M' h ⟨rfl, rfl⟩
theorem dX7_isToCome_0 : decode cX7_isToCome 0 = .ok (.aload_n 0, 1) := by decide +kernel
theorem dX7_isToCome_1 : decode cX7_isToCome 1 = .ok (.iload_n 1, 1) := by decide +kernel
theorem dX7_isToCome_2 : decode cX7_isToCome 2 = .ok (.invokevirtual 116, 3) := by decide +kernel
theorem dX7_isToCome_5 : decode cX7_isToCome 5 = .ok (.ifCond .eq 31, 3) := by decide +kernel
theorem dX7_isToCome_8 : decode cX7_isToCome 8 = .ok (.iload_n 2, 1) := by decide +kernel
theorem dX7_isToCome_9 : decode cX7_isToCome 9 = .ok (.aload_n 0, 1) := by decide +kernel
theorem dX7_isToCome_10 : decode cX7_isToCome 10 = .ok (.getfield 19, 3) := by decide +kernel
theorem dX7_isToCome_13 : decode cX7_isToCome 13 = .ok (.getfield 102, 3) := by decide +kernel
theorem dX7_isToCome_16 : decode cX7_isToCome 16 = .ok (.if_icmp .le 20, 3) := by decide +kernel
theorem dX7_isToCome_19 : decode cX7_isToCome 19 = .ok (.iload_n 2, 1) := by decide +kernel
theorem dX7_isToCome_20 : decode cX7_isToCome 20 = .ok (.aload_n 0, 1) := by decide +kernel
theorem dX7_isToCome_21 : decode cX7_isToCome 21 = .ok (.getfield 10, 3) := by decide +kernel
theorem dX7_isToCome_24 : decode cX7_isToCome 24 = .ok (.getfield 137, 3) := by decide +kernel
theorem dX7_isToCome_27 : decode cX7_isToCome 27 = .ok (.iload_n 1, 1) := by decide +kernel
theorem dX7_isToCome_28 : decode cX7_isToCome 28 = .ok (.iaload, 1) := by decide +kernel
theorem dX7_isToCome_29 : decode cX7_isToCome 29 = .ok (.if_icmp .gt 7, 3) := by decide +kernel
theorem dX7_isToCome_32 : decode cX7_isToCome 32 = .ok (.iconst 1, 1) := by decide +kernel
theorem dX7_isToCome_33 : decode cX7_isToCome 33 = .ok (.goto 4, 3) := by decide +kernel
theorem dX7_isToCome_36 : decode cX7_isToCome 36 = .ok (.iconst 0, 1) := by decide +kernel
theorem dX7_isToCome_37 : decode cX7_isToCome 37 = .ok (.ireturn, 1) := by decide +kernel
abbrev rX7_isToCome : Room := { frames := 1, cells := 0, slots := 0, locals := 21 }
theorem cal_X7_isToCome : CalOk yX7_isToCome cX7_isToCome 3 (some .boolean) 2 := ⟨wm_4_52, wm_1_1, by decide, by decide, by decide +kernel⟩
def f_X7_isToCome (p0 : Nat) (p1 : Int32) (p2 : Int32) (M : Mm) : Option (Int32 × Mm) :=
  ck (gK M p0 = 7) (bd (f_X7_isLoan p0 p1 M) fun v2 M1 =>
  (if v2 = 0 then
    some ((0 : Int32), M1)
  else
    ck (gK M1 p0 = 7) (bR (gR M1 p0 1) fun q3 => ck (gK M1 q3 = 5) ((if p2 ≤ (gI M1 q3 0) then
      some ((0 : Int32), M1)
    else
      ck (gK M1 p0 = 7) (bR (gR M1 p0 0) fun q4 => ck (gK M1 q4 = 6) (bR (gR M1 q4 9) fun q5 => ck (gK M1 q5 = 10 ∧ inb p1 (gN M1 q5)) ((if (gI M1 q5 (p1).toNatClampNeg) < p2 then
        some ((0 : Int32), M1)
      else
        some ((1 : Int32), M1))))))))))
set_option maxRecDepth 20000 in
set_option maxHeartbeats 4000000 in
theorem t_X7_isToCome (p0 : Nat) (p1 : Int32) (p2 : Int32) (M : Mm) (x : Int32) (M' : Mm) (h : f_X7_isToCome p0 p1 p2 M = some (x, M')) : Ctr yX7_isToCome cX7_isToCome 3 (some .boolean) rX7_isToCome (fun _ => [.ref p0, .int p1, .int p2]) M (zI x) M' := by
  refine ctr_of (plainFor_of_name (by decide)) (fun _ => Nat.le_of_ble_eq_true rfl) (fun z hz hin hq => ?_)
  have key : Sim z 0 [(0, .ref p0), (1, .int p1), (2, .int p2)] [] M 0 0 (f_X7_isToCome p0 p1 p2 M) (fun a b => a = x ∧ b = M') := by
    have hq : Ret z zI (fun a b => a = x ∧ b = M') := fun a b e => by rw [e.1, e.2]; exact hq
    unfold f_X7_isToCome
    refine r_aload_n hz dX7_isToCome_0 0 rfl ?_
    refine r_iload_n hz dX7_isToCome_1 1 rfl ?_
    refine r_callVi (As := fun _ => [.int p1]) cl7 hz (fun _ _ h => t_X7_isLoan _ _ _ _ _ h) cal_X7_isLoan dX7_isToCome_2 wm_3_149 wm_3_151 wm_p_25 rfl rfl (Nat.le_of_ble_eq_true rfl) ⟨(Nat.le_of_ble_eq_true rfl), (Nat.le_of_ble_eq_true rfl)⟩ ⟨(Nat.le_of_ble_eq_true rfl), (Nat.le_of_ble_eq_true rfl)⟩ (fun v2 M1 => ?_)
    refine r_if_eq (tgt := 36) hz dX7_isToCome_5 rfl ?_ ?_
    · refine r_iconst (v := 0) hz dX7_isToCome_36 rfl ?_
      exact r_zret hz hq dX7_isToCome_37 (Or.inl rfl) (Nat.le_of_ble_eq_true rfl) (Nat.le_of_ble_eq_true rfl)
    · refine r_iload_n hz dX7_isToCome_8 2 rfl ?_
      refine r_aload_n hz dX7_isToCome_9 0 rfl ?_
      refine r_getR (j := 1) cl7 hz dX7_isToCome_10 (by decide) wm_2_105 rfl (fun q3 => ?_)
      refine r_getI (j := 0) cl5 hz dX7_isToCome_13 (by decide) wm_1_142 rfl ?_
      refine r_icmp_le (tgt := 36) hz dX7_isToCome_16 rfl ?_ ?_
      · refine r_iconst (v := 0) hz dX7_isToCome_36 rfl ?_
        exact r_zret hz hq dX7_isToCome_37 (Or.inl rfl) (Nat.le_of_ble_eq_true rfl) (Nat.le_of_ble_eq_true rfl)
      · refine r_iload_n hz dX7_isToCome_19 2 rfl ?_
        refine r_aload_n hz dX7_isToCome_20 0 rfl ?_
        refine r_getR (j := 0) cl7 hz dX7_isToCome_21 (by decide) wm_2_104 rfl (fun q4 => ?_)
        refine r_getR (j := 9) cl6 hz dX7_isToCome_24 (by decide) wm_1_71 rfl (fun q5 => ?_)
        refine r_iload_n hz dX7_isToCome_27 1 rfl ?_
        refine r_iald hz dX7_isToCome_28 ?_
        refine r_icmp_gt (tgt := 36) hz dX7_isToCome_29 rfl ?_ ?_
        · refine r_iconst (v := 0) hz dX7_isToCome_36 rfl ?_
          exact r_zret hz hq dX7_isToCome_37 (Or.inl rfl) (Nat.le_of_ble_eq_true rfl) (Nat.le_of_ble_eq_true rfl)
        · refine r_iconst (v := 1) hz dX7_isToCome_32 rfl ?_
          refine r_goto (tgt := 37) hz dX7_isToCome_33 rfl ?_
          exact r_zret hz hq dX7_isToCome_37 (Or.inr rfl) (Nat.le_of_ble_eq_true rfl) (Nat.le_of_ble_eq_true rfl)
  exact key x M' h ⟨rfl, rfl⟩
theorem dX7_priced_0 : decode cX7_priced 0 = .ok (.aload_n 0, 1) := by decide +kernel
theorem dX7_priced_1 : decode cX7_priced 1 = .ok (.iload_n 1, 1) := by decide +kernel
theorem dX7_priced_2 : decode cX7_priced 2 = .ok (.iload_n 2, 1) := by decide +kernel
theorem dX7_priced_3 : decode cX7_priced 3 = .ok (.invokevirtual 253, 3) := by decide +kernel
theorem dX7_priced_6 : decode cX7_priced 6 = .ok (.ifCond .eq 15, 3) := by decide +kernel
theorem dX7_priced_9 : decode cX7_priced 9 = .ok (.iload_n 3, 1) := by decide +kernel
theorem dX7_priced_10 : decode cX7_priced 10 = .ok (.iconst 1, 1) := by decide +kernel
theorem dX7_priced_11 : decode cX7_priced 11 = .ok (.if_icmp .lt 10, 3) := by decide +kernel
theorem dX7_priced_14 : decode cX7_priced 14 = .ok (.iload_n 3, 1) := by decide +kernel
theorem dX7_priced_15 : decode cX7_priced 15 = .ok (.sipush 999, 3) := by decide +kernel
theorem dX7_priced_18 : decode cX7_priced 18 = .ok (.if_icmp .le 5, 3) := by decide +kernel
theorem dX7_priced_21 : decode cX7_priced 21 = .ok (.iconst (-1), 1) := by decide +kernel
theorem dX7_priced_22 : decode cX7_priced 22 = .ok (.ireturn, 1) := by decide +kernel
theorem dX7_priced_23 : decode cX7_priced 23 = .ok (.aload_n 0, 1) := by decide +kernel
theorem dX7_priced_24 : decode cX7_priced 24 = .ok (.invokevirtual 199, 3) := by decide +kernel
theorem dX7_priced_27 : decode cX7_priced 27 = .ok (.iload_n 1, 1) := by decide +kernel
theorem dX7_priced_28 : decode cX7_priced 28 = .ok (.iload_n 2, 1) := by decide +kernel
theorem dX7_priced_29 : decode cX7_priced 29 = .ok (.invokestatic 196, 3) := by decide +kernel
theorem dX7_priced_32 : decode cX7_priced 32 = .ok (.istore 4, 2) := by decide +kernel
theorem dX7_priced_34 : decode cX7_priced 34 = .ok (.aload_n 0, 1) := by decide +kernel
theorem dX7_priced_35 : decode cX7_priced 35 = .ok (.getfield 19, 3) := by decide +kernel
theorem dX7_priced_38 : decode cX7_priced 38 = .ok (.getfield 193, 3) := by decide +kernel
theorem dX7_priced_41 : decode cX7_priced 41 = .ok (.iload 4, 2) := by decide +kernel
theorem dX7_priced_43 : decode cX7_priced 43 = .ok (.iaload, 1) := by decide +kernel
theorem dX7_priced_44 : decode cX7_priced 44 = .ok (.istore 5, 2) := by decide +kernel
theorem dX7_priced_46 : decode cX7_priced 46 = .ok (.aload_n 0, 1) := by decide +kernel
theorem dX7_priced_47 : decode cX7_priced 47 = .ok (.getfield 19, 3) := by decide +kernel
theorem dX7_priced_50 : decode cX7_priced 50 = .ok (.getfield 193, 3) := by decide +kernel
theorem dX7_priced_53 : decode cX7_priced 53 = .ok (.iload 4, 2) := by decide +kernel
theorem dX7_priced_55 : decode cX7_priced 55 = .ok (.iload_n 3, 1) := by decide +kernel
theorem dX7_priced_56 : decode cX7_priced 56 = .ok (.iastore, 1) := by decide +kernel
theorem dX7_priced_57 : decode cX7_priced 57 = .ok (.iload 5, 2) := by decide +kernel
theorem dX7_priced_59 : decode cX7_priced 59 = .ok (.ireturn, 1) := by decide +kernel
abbrev rX7_priced : Room := { frames := 3, cells := 10, slots := 1152, locals := 83 }
theorem cal_X7_priced : CalOk yX7_priced cX7_priced 6 (some .int) 3 := ⟨wm_4_48, wm_1_1, by decide, by decide, by decide +kernel⟩
def f_X7_priced (p0 : Nat) (p1 : Int32) (p2 : Int32) (p3 : Int32) (M : Mm) : Option (Int32 × Mm) :=
  ck (gK M p0 = 7) (bd (f_X7_isToCome p0 p1 p2 M) fun v2 M1 =>
  (if v2 = 0 then
    some ((-1 : Int32), M1)
  else
    (if p3 < (1 : Int32) then
      some ((-1 : Int32), M1)
    else
      (if p3 ≤ (999 : Int32) then
        ck (gK M1 p0 = 7) (bd (f_X7_remember p0 M1) fun _ M3 =>
        bd (f_X7_cellOf p1 p2 M3) fun v5 M4 =>
        ck (gK M4 p0 = 7) (bR (gR M4 p0 1) fun q6 => ck (gK M4 q6 = 5) (bR (gR M4 q6 4) fun q7 => ck (gK M4 q7 = 10 ∧ inb v5 (gN M4 q7)) (nm (gI M4 q7 (v5).toNatClampNeg) fun v8 =>
        ck (gK M4 p0 = 7) (bR (gR M4 p0 1) fun q9 => ck (gK M4 q9 = 5) (bR (gR M4 q9 4) fun q10 => ck (gK M4 q10 = 10 ∧ inb v5 (gN M4 q10)) (nm (sI M4 q10 (v5).toNatClampNeg p3) fun M11 =>
        some (v8, M11))))))))
      else
        some ((-1 : Int32), M1)))))
set_option maxRecDepth 20000 in
set_option maxHeartbeats 4000000 in
theorem t_X7_priced (p0 : Nat) (p1 : Int32) (p2 : Int32) (p3 : Int32) (M : Mm) (x : Int32) (M' : Mm) (h : f_X7_priced p0 p1 p2 p3 M = some (x, M')) : Ctr yX7_priced cX7_priced 6 (some .int) rX7_priced (fun _ => [.ref p0, .int p1, .int p2, .int p3]) M (zI x) M' := by
  refine ctr_of (plainFor_of_name (by decide)) (fun _ => Nat.le_of_ble_eq_true rfl) (fun z hz hin hq => ?_)
  have key : Sim z 0 [(0, .ref p0), (1, .int p1), (2, .int p2), (3, .int p3)] [] M 0 0 (f_X7_priced p0 p1 p2 p3 M) (fun a b => a = x ∧ b = M') := by
    have hq : Ret z zI (fun a b => a = x ∧ b = M') := fun a b e => by rw [e.1, e.2]; exact hq
    unfold f_X7_priced
    refine r_aload_n hz dX7_priced_0 0 rfl ?_
    refine r_iload_n hz dX7_priced_1 1 rfl ?_
    refine r_iload_n hz dX7_priced_2 2 rfl ?_
    refine r_callVi (As := fun _ => [.int p1, .int p2]) cl7 hz (fun _ _ h => t_X7_isToCome _ _ _ _ _ _ h) cal_X7_isToCome dX7_priced_3 wm_4_49 wm_4_51 wm_p_37 rfl rfl (Nat.le_of_ble_eq_true rfl) ⟨(Nat.le_of_ble_eq_true rfl), (Nat.le_of_ble_eq_true rfl)⟩ ⟨(Nat.le_of_ble_eq_true rfl), (Nat.le_of_ble_eq_true rfl)⟩ (fun v2 M1 => ?_)
    refine r_if_eq (tgt := 21) hz dX7_priced_6 rfl ?_ ?_
    · refine r_iconst (v := -1) hz dX7_priced_21 rfl ?_
      exact r_iret hz hq dX7_priced_22 (Nat.le_of_ble_eq_true rfl) (Nat.le_of_ble_eq_true rfl)
    · refine r_iload_n hz dX7_priced_9 3 rfl ?_
      refine r_iconst (v := 1) hz dX7_priced_10 rfl ?_
      refine r_icmp_lt (tgt := 21) hz dX7_priced_11 rfl ?_ ?_
      · refine r_iconst (v := -1) hz dX7_priced_21 rfl ?_
        exact r_iret hz hq dX7_priced_22 (Nat.le_of_ble_eq_true rfl) (Nat.le_of_ble_eq_true rfl)
      · refine r_iload_n hz dX7_priced_14 3 rfl ?_
        refine r_sipush (v := 999) hz dX7_priced_15 rfl ?_
        refine r_icmp_le (tgt := 23) hz dX7_priced_18 rfl ?_ ?_
        · refine r_aload_n hz dX7_priced_23 0 rfl ?_
          refine r_callVv (As := fun _ => []) cl7 hz (fun _ _ h => t_X7_remember _ _ _ _ h) cal_X7_remember dX7_priced_24 wm_3_196 wm_3_198 wm_p_30 rfl rfl (Nat.le_of_ble_eq_true rfl) ⟨(Nat.le_of_ble_eq_true rfl), (Nat.le_of_ble_eq_true rfl)⟩ ⟨(Nat.le_of_ble_eq_true rfl), (Nat.le_of_ble_eq_true rfl)⟩ (fun _ M3 => ?_)
          refine r_iload_n hz dX7_priced_27 1 rfl ?_
          refine r_iload_n hz dX7_priced_28 2 rfl ?_
          refine r_callSi (As := fun _ => [.int p1, .int p2]) hz (fun _ _ h => t_X7_cellOf _ _ _ _ _ h) cal_X7_cellOf dX7_priced_29 wm_3_183 wm_3_100 rfl rfl (Nat.le_of_ble_eq_true rfl) ⟨(Nat.le_of_ble_eq_true rfl), (Nat.le_of_ble_eq_true rfl)⟩ ⟨(Nat.le_of_ble_eq_true rfl), (Nat.le_of_ble_eq_true rfl)⟩ (fun v5 M4 => ?_)
          refine r_istore (lv' := [(4, .int v5), (0, .ref p0), (1, .int p1), (2, .int p2), (3, .int p3)]) hz dX7_priced_32 (by decide) rfl ?_
          refine r_aload_n hz dX7_priced_34 1 rfl ?_
          refine r_getR (j := 1) cl7 hz dX7_priced_35 (by decide) wm_2_105 rfl (fun q6 => ?_)
          refine r_getR (j := 4) cl5 hz dX7_priced_38 (by decide) wm_1_152 rfl (fun q7 => ?_)
          refine r_iload hz dX7_priced_41 0 rfl ?_
          refine r_iald hz dX7_priced_43 ?_
          refine r_nmi (fun v8 => ?_)
          refine r_istore (lv' := [(5, .int v8), (4, .int v5), (0, .ref p0), (1, .int p1), (2, .int p2), (3, .int p3)]) hz dX7_priced_44 (by decide) rfl ?_
          refine r_aload_n hz dX7_priced_46 2 rfl ?_
          refine r_getR (j := 1) cl7 hz dX7_priced_47 (by decide) wm_2_105 rfl (fun q9 => ?_)
          refine r_getR (j := 4) cl5 hz dX7_priced_50 (by decide) wm_1_152 rfl (fun q10 => ?_)
          refine r_iload hz dX7_priced_53 1 rfl ?_
          refine r_iload_n hz dX7_priced_55 5 rfl ?_
          refine r_iast hz dX7_priced_56 ?_
          refine r_nmM (fun M11 => ?_)
          refine r_iload hz dX7_priced_57 0 rfl ?_
          exact r_iret hz hq dX7_priced_59 (Nat.le_of_ble_eq_true rfl) (Nat.le_of_ble_eq_true rfl)
        · refine r_iconst (v := -1) hz dX7_priced_21 rfl ?_
          exact r_iret hz hq dX7_priced_22 (Nat.le_of_ble_eq_true rfl) (Nat.le_of_ble_eq_true rfl)
  exact key x M' h ⟨rfl, rfl⟩
theorem dX7_wheel_0 : decode cX7_wheel 0 = .ok (.aload_n 0, 1) := by decide +kernel
theorem dX7_wheel_1 : decode cX7_wheel 1 = .ok (.iload_n 1, 1) := by decide +kernel
theorem dX7_wheel_2 : decode cX7_wheel 2 = .ok (.invokevirtual 116, 3) := by decide +kernel
theorem dX7_wheel_5 : decode cX7_wheel 5 = .ok (.ifCond .eq 15, 3) := by decide +kernel
theorem dX7_wheel_8 : decode cX7_wheel 8 = .ok (.iload_n 2, 1) := by decide +kernel
theorem dX7_wheel_9 : decode cX7_wheel 9 = .ok (.iconst 1, 1) := by decide +kernel
theorem dX7_wheel_10 : decode cX7_wheel 10 = .ok (.if_icmp .lt 10, 3) := by decide +kernel
theorem dX7_wheel_13 : decode cX7_wheel 13 = .ok (.iload_n 2, 1) := by decide +kernel
theorem dX7_wheel_14 : decode cX7_wheel 14 = .ok (.ldc_w 256, 3) := by decide +kernel
theorem dX7_wheel_17 : decode cX7_wheel 17 = .ok (.if_icmp .le 5, 3) := by decide +kernel
theorem dX7_wheel_20 : decode cX7_wheel 20 = .ok (.iconst (-1), 1) := by decide +kernel
theorem dX7_wheel_21 : decode cX7_wheel 21 = .ok (.ireturn, 1) := by decide +kernel
theorem dX7_wheel_22 : decode cX7_wheel 22 = .ok (.aload_n 0, 1) := by decide +kernel
theorem dX7_wheel_23 : decode cX7_wheel 23 = .ok (.invokevirtual 199, 3) := by decide +kernel
theorem dX7_wheel_26 : decode cX7_wheel 26 = .ok (.aload_n 0, 1) := by decide +kernel
theorem dX7_wheel_27 : decode cX7_wheel 27 = .ok (.getfield 19, 3) := by decide +kernel
theorem dX7_wheel_30 : decode cX7_wheel 30 = .ok (.getfield 148, 3) := by decide +kernel
theorem dX7_wheel_33 : decode cX7_wheel 33 = .ok (.iload_n 1, 1) := by decide +kernel
theorem dX7_wheel_34 : decode cX7_wheel 34 = .ok (.iaload, 1) := by decide +kernel
theorem dX7_wheel_35 : decode cX7_wheel 35 = .ok (.istore_n 3, 1) := by decide +kernel
theorem dX7_wheel_36 : decode cX7_wheel 36 = .ok (.aload_n 0, 1) := by decide +kernel
theorem dX7_wheel_37 : decode cX7_wheel 37 = .ok (.getfield 19, 3) := by decide +kernel
theorem dX7_wheel_40 : decode cX7_wheel 40 = .ok (.getfield 148, 3) := by decide +kernel
theorem dX7_wheel_43 : decode cX7_wheel 43 = .ok (.iload_n 1, 1) := by decide +kernel
theorem dX7_wheel_44 : decode cX7_wheel 44 = .ok (.iload_n 2, 1) := by decide +kernel
theorem dX7_wheel_45 : decode cX7_wheel 45 = .ok (.iastore, 1) := by decide +kernel
theorem dX7_wheel_46 : decode cX7_wheel 46 = .ok (.iload_n 3, 1) := by decide +kernel
theorem dX7_wheel_47 : decode cX7_wheel 47 = .ok (.ireturn, 1) := by decide +kernel
abbrev rX7_wheel : Room := { frames := 3, cells := 10, slots := 1152, locals := 83 }
theorem cal_X7_wheel : CalOk yX7_wheel cX7_wheel 4 (some .int) 2 := ⟨wm_4_56, wm_1_1, by decide, by decide, by decide +kernel⟩
def f_X7_wheel (p0 : Nat) (p1 : Int32) (p2 : Int32) (M : Mm) : Option (Int32 × Mm) :=
  ck (gK M p0 = 7) (bd (f_X7_isLoan p0 p1 M) fun v2 M1 =>
  (if v2 = 0 then
    some ((-1 : Int32), M1)
  else
    (if p2 < (1 : Int32) then
      some ((-1 : Int32), M1)
    else
      (if p2 ≤ (2147483646 : Int32) then
        ck (gK M1 p0 = 7) (bd (f_X7_remember p0 M1) fun _ M3 =>
        ck (gK M3 p0 = 7) (bR (gR M3 p0 1) fun q4 => ck (gK M3 q4 = 5) (bR (gR M3 q4 2) fun q5 => ck (gK M3 q5 = 10 ∧ inb p1 (gN M3 q5)) (nm (gI M3 q5 (p1).toNatClampNeg) fun v6 =>
        ck (gK M3 p0 = 7) (bR (gR M3 p0 1) fun q7 => ck (gK M3 q7 = 5) (bR (gR M3 q7 2) fun q8 => ck (gK M3 q8 = 10 ∧ inb p1 (gN M3 q8)) (nm (sI M3 q8 (p1).toNatClampNeg p2) fun M9 =>
        some (v6, M9))))))))
      else
        some ((-1 : Int32), M1)))))
set_option maxRecDepth 20000 in
set_option maxHeartbeats 4000000 in
theorem t_X7_wheel (p0 : Nat) (p1 : Int32) (p2 : Int32) (M : Mm) (x : Int32) (M' : Mm) (h : f_X7_wheel p0 p1 p2 M = some (x, M')) : Ctr yX7_wheel cX7_wheel 4 (some .int) rX7_wheel (fun _ => [.ref p0, .int p1, .int p2]) M (zI x) M' := by
  refine ctr_of (plainFor_of_name (by decide)) (fun _ => Nat.le_of_ble_eq_true rfl) (fun z hz hin hq => ?_)
  have key : Sim z 0 [(0, .ref p0), (1, .int p1), (2, .int p2)] [] M 0 0 (f_X7_wheel p0 p1 p2 M) (fun a b => a = x ∧ b = M') := by
    have hq : Ret z zI (fun a b => a = x ∧ b = M') := fun a b e => by rw [e.1, e.2]; exact hq
    unfold f_X7_wheel
    refine r_aload_n hz dX7_wheel_0 0 rfl ?_
    refine r_iload_n hz dX7_wheel_1 1 rfl ?_
    refine r_callVi (As := fun _ => [.int p1]) cl7 hz (fun _ _ h => t_X7_isLoan _ _ _ _ _ h) cal_X7_isLoan dX7_wheel_2 wm_3_149 wm_3_151 wm_p_25 rfl rfl (Nat.le_of_ble_eq_true rfl) ⟨(Nat.le_of_ble_eq_true rfl), (Nat.le_of_ble_eq_true rfl)⟩ ⟨(Nat.le_of_ble_eq_true rfl), (Nat.le_of_ble_eq_true rfl)⟩ (fun v2 M1 => ?_)
    refine r_if_eq (tgt := 20) hz dX7_wheel_5 rfl ?_ ?_
    · refine r_iconst (v := -1) hz dX7_wheel_20 rfl ?_
      exact r_iret hz hq dX7_wheel_21 (Nat.le_of_ble_eq_true rfl) (Nat.le_of_ble_eq_true rfl)
    · refine r_iload_n hz dX7_wheel_8 2 rfl ?_
      refine r_iconst (v := 1) hz dX7_wheel_9 rfl ?_
      refine r_icmp_lt (tgt := 20) hz dX7_wheel_10 rfl ?_ ?_
      · refine r_iconst (v := -1) hz dX7_wheel_20 rfl ?_
        exact r_iret hz hq dX7_wheel_21 (Nat.le_of_ble_eq_true rfl) (Nat.le_of_ble_eq_true rfl)
      · refine r_iload_n hz dX7_wheel_13 2 rfl ?_
        refine r_ldcw (v := 2147483646) hz dX7_wheel_14 wm_4_57 ?_
        refine r_icmp_le (tgt := 22) hz dX7_wheel_17 rfl ?_ ?_
        · refine r_aload_n hz dX7_wheel_22 0 rfl ?_
          refine r_callVv (As := fun _ => []) cl7 hz (fun _ _ h => t_X7_remember _ _ _ _ h) cal_X7_remember dX7_wheel_23 wm_3_196 wm_3_198 wm_p_30 rfl rfl (Nat.le_of_ble_eq_true rfl) ⟨(Nat.le_of_ble_eq_true rfl), (Nat.le_of_ble_eq_true rfl)⟩ ⟨(Nat.le_of_ble_eq_true rfl), (Nat.le_of_ble_eq_true rfl)⟩ (fun _ M3 => ?_)
          refine r_aload_n hz dX7_wheel_26 0 rfl ?_
          refine r_getR (j := 1) cl7 hz dX7_wheel_27 (by decide) wm_2_105 rfl (fun q4 => ?_)
          refine r_getR (j := 2) cl5 hz dX7_wheel_30 (by decide) wm_1_146 rfl (fun q5 => ?_)
          refine r_iload_n hz dX7_wheel_33 1 rfl ?_
          refine r_iald hz dX7_wheel_34 ?_
          refine r_nmi (fun v6 => ?_)
          refine r_istore_n (lv' := [(3, .int v6), (0, .ref p0), (1, .int p1), (2, .int p2)]) hz dX7_wheel_35 (by decide) rfl ?_
          refine r_aload_n hz dX7_wheel_36 1 rfl ?_
          refine r_getR (j := 1) cl7 hz dX7_wheel_37 (by decide) wm_2_105 rfl (fun q7 => ?_)
          refine r_getR (j := 2) cl5 hz dX7_wheel_40 (by decide) wm_1_146 rfl (fun q8 => ?_)
          refine r_iload_n hz dX7_wheel_43 2 rfl ?_
          refine r_iload_n hz dX7_wheel_44 3 rfl ?_
          refine r_iast hz dX7_wheel_45 ?_
          refine r_nmM (fun M9 => ?_)
          refine r_iload_n hz dX7_wheel_46 0 rfl ?_
          exact r_iret hz hq dX7_wheel_47 (Nat.le_of_ble_eq_true rfl) (Nat.le_of_ble_eq_true rfl)
        · refine r_iconst (v := -1) hz dX7_wheel_20 rfl ?_
          exact r_iret hz hq dX7_wheel_21 (Nat.le_of_ble_eq_true rfl) (Nat.le_of_ble_eq_true rfl)
  exact key x M' h ⟨rfl, rfl⟩
theorem dX7_undo_0 : decode cX7_undo 0 = .ok (.aload_n 0, 1) := by decide +kernel
theorem dX7_undo_1 : decode cX7_undo 1 = .ok (.getfield 27, 3) := by decide +kernel
theorem dX7_undo_4 : decode cX7_undo 4 = .ok (.ifCond .gt 5, 3) := by decide +kernel
theorem dX7_undo_7 : decode cX7_undo 7 = .ok (.iconst (-1), 1) := by decide +kernel
theorem dX7_undo_8 : decode cX7_undo 8 = .ok (.ireturn, 1) := by decide +kernel
theorem dX7_undo_9 : decode cX7_undo 9 = .ok (.aload_n 0, 1) := by decide +kernel
theorem dX7_undo_10 : decode cX7_undo 10 = .ok (.getfield 23, 3) := by decide +kernel
theorem dX7_undo_13 : decode cX7_undo 13 = .ok (.aload_n 0, 1) := by decide +kernel
theorem dX7_undo_14 : decode cX7_undo 14 = .ok (.getfield 27, 3) := by decide +kernel
theorem dX7_undo_17 : decode cX7_undo 17 = .ok (.iconst 1, 1) := by decide +kernel
theorem dX7_undo_18 : decode cX7_undo 18 = .ok (.isub, 1) := by decide +kernel
theorem dX7_undo_19 : decode cX7_undo 19 = .ok (.aaload, 1) := by decide +kernel
theorem dX7_undo_20 : decode cX7_undo 20 = .ok (.astore_n 1, 1) := by decide +kernel
theorem dX7_undo_21 : decode cX7_undo 21 = .ok (.aload_n 1, 1) := by decide +kernel
theorem dX7_undo_22 : decode cX7_undo 22 = .ok (.ifnonnull 5, 3) := by decide +kernel
theorem dX7_undo_25 : decode cX7_undo 25 = .ok (.iconst (-1), 1) := by decide +kernel
theorem dX7_undo_26 : decode cX7_undo 26 = .ok (.ireturn, 1) := by decide +kernel
theorem dX7_undo_27 : decode cX7_undo 27 = .ok (.aload_n 0, 1) := by decide +kernel
theorem dX7_undo_28 : decode cX7_undo 28 = .ok (.getfield 19, 3) := by decide +kernel
theorem dX7_undo_31 : decode cX7_undo 31 = .ok (.aload_n 1, 1) := by decide +kernel
theorem dX7_undo_32 : decode cX7_undo 32 = .ok (.invokevirtual 257, 3) := by decide +kernel
theorem dX7_undo_35 : decode cX7_undo 35 = .ok (.aload_n 0, 1) := by decide +kernel
theorem dX7_undo_36 : decode cX7_undo 36 = .ok (.dup, 1) := by decide +kernel
theorem dX7_undo_37 : decode cX7_undo 37 = .ok (.getfield 27, 3) := by decide +kernel
theorem dX7_undo_40 : decode cX7_undo 40 = .ok (.iconst 1, 1) := by decide +kernel
theorem dX7_undo_41 : decode cX7_undo 41 = .ok (.isub, 1) := by decide +kernel
theorem dX7_undo_42 : decode cX7_undo 42 = .ok (.putfield 27, 3) := by decide +kernel
theorem dX7_undo_45 : decode cX7_undo 45 = .ok (.aload_n 0, 1) := by decide +kernel
theorem dX7_undo_46 : decode cX7_undo 46 = .ok (.getfield 27, 3) := by decide +kernel
theorem dX7_undo_49 : decode cX7_undo 49 = .ok (.ireturn, 1) := by decide +kernel
abbrev rX7_undo : Room := { frames := 2, cells := 0, slots := 0, locals := 61 }
theorem cal_X7_undo : CalOk yX7_undo cX7_undo 2 (some .int) 0 := ⟨wm_4_61, wm_1_1, by decide, by decide, by decide +kernel⟩
def f_X7_undo (p0 : Nat) (M : Mm) : Option (Int32 × Mm) :=
  ck (gK M p0 = 7) ((if 0 < (gI M p0 3) then
    ck (gK M p0 = 7) (bR (gR M p0 2) fun q1 => ck (gK M p0 = 7) (ck (gK M q1 = 12 ∧ inb ((gI M p0 3) - (1 : Int32)) (gN M q1)) (nm (gR M q1 (((gI M p0 3) - (1 : Int32))).toNatClampNeg) fun o2 =>
    (o2.elim
      (some ((-1 : Int32), M))
      (fun q3 =>
      ck (gK M p0 = 7) (bR (gR M p0 1) fun q4 => ck (gK M q4 = 5) (bd (f_X5_become q4 q3 M) fun _ M5 =>
      ck (gK M5 p0 = 7) (ck (gK M5 p0 = 7) (nm (sI M5 p0 3 ((gI M5 p0 3) - (1 : Int32))) fun M6 =>
      ck (gK M6 p0 = 7) (some ((gI M6 p0 3), M6)))))))))))
  else
    some ((-1 : Int32), M)))
set_option maxRecDepth 20000 in
set_option maxHeartbeats 4000000 in
theorem t_X7_undo (p0 : Nat) (M : Mm) (x : Int32) (M' : Mm) (h : f_X7_undo p0 M = some (x, M')) : Ctr yX7_undo cX7_undo 2 (some .int) rX7_undo (fun _ => [.ref p0]) M (zI x) M' := by
  refine ctr_of (plainFor_of_name (by decide)) (fun _ => Nat.le_of_ble_eq_true rfl) (fun z hz hin hq => ?_)
  have key : Sim z 0 [(0, .ref p0)] [] M 0 0 (f_X7_undo p0 M) (fun a b => a = x ∧ b = M') := by
    have hq : Ret z zI (fun a b => a = x ∧ b = M') := fun a b e => by rw [e.1, e.2]; exact hq
    unfold f_X7_undo
    refine r_aload_n hz dX7_undo_0 0 rfl ?_
    refine r_getI (j := 3) cl7 hz dX7_undo_1 (by decide) wm_2_107 rfl ?_
    refine r_if_gt (tgt := 9) hz dX7_undo_4 rfl ?_ ?_
    · refine r_aload_n hz dX7_undo_9 0 rfl ?_
      refine r_getR (j := 2) cl7 hz dX7_undo_10 (by decide) wm_2_106 rfl (fun q1 => ?_)
      refine r_aload_n hz dX7_undo_13 0 rfl ?_
      refine r_getI (j := 3) cl7 hz dX7_undo_14 (by decide) wm_2_107 rfl ?_
      refine r_iconst (v := 1) hz dX7_undo_17 rfl ?_
      refine r_isub hz dX7_undo_18 ?_
      refine r_aald (f := fun t => nm t _) hz dX7_undo_19 (fun o20 => ?_)
      refine r_nmq (fun o2 => ?_)
      refine r_astore_nq (lv' := [(1, va_rf o2), (0, .ref p0)]) hz dX7_undo_20 (by decide) rfl ?_
      refine r_aload_nq hz dX7_undo_21 0 rfl ?_
      refine r_nn (tgt := 27) hz dX7_undo_22 rfl (fun q3 e7 => ?_) (fun e7 => ?_)
      · subst e7
        refine r_aload_n hz dX7_undo_27 1 rfl ?_
        refine r_getR (j := 1) cl7 hz dX7_undo_28 (by decide) wm_2_105 rfl (fun q4 => ?_)
        refine r_aload_n hz dX7_undo_31 0 rfl ?_
        refine r_callVv (As := fun _ => [.ref q3]) cl5 hz (fun _ _ h => t_X5_become _ _ _ _ _ h) cal_X5_become dX7_undo_32 wm_3_200 wm_3_201 wm_3_202 rfl rfl (Nat.le_of_ble_eq_true rfl) ⟨(Nat.le_of_ble_eq_true rfl), (Nat.le_of_ble_eq_true rfl)⟩ ⟨(Nat.le_of_ble_eq_true rfl), (Nat.le_of_ble_eq_true rfl)⟩ (fun _ M5 => ?_)
        refine r_aload_n hz dX7_undo_35 1 rfl ?_
        refine r_dup hz dX7_undo_36 rfl ?_
        refine r_getI (j := 3) cl7 hz dX7_undo_37 (by decide) wm_2_107 rfl ?_
        refine r_iconst (v := 1) hz dX7_undo_40 rfl ?_
        refine r_isub hz dX7_undo_41 ?_
        refine r_putI (j := 3) cl7 hz dX7_undo_42 (by decide) wm_2_107 (Or.inl rfl) rfl rfl rfl ?_
        refine r_nmM (fun M6 => ?_)
        refine r_aload_n hz dX7_undo_45 1 rfl ?_
        refine r_getI (j := 3) cl7 hz dX7_undo_46 (by decide) wm_2_107 rfl ?_
        exact r_iret hz hq dX7_undo_49 (Nat.le_of_ble_eq_true rfl) (Nat.le_of_ble_eq_true rfl)
      · subst e7
        refine r_iconst (v := -1) hz dX7_undo_25 rfl ?_
        exact r_iret hz hq dX7_undo_26 (Nat.le_of_ble_eq_true rfl) (Nat.le_of_ble_eq_true rfl)
    · refine r_iconst (v := -1) hz dX7_undo_7 rfl ?_
      exact r_iret hz hq dX7_undo_8 (Nat.le_of_ble_eq_true rfl) (Nat.le_of_ble_eq_true rfl)
  exact key x M' h ⟨rfl, rfl⟩
theorem dX7_image_0 : decode cX7_image 0 = .ok (.iload_n 1, 1) := by decide +kernel
theorem dX7_image_1 : decode cX7_image 1 = .ok (.ifCond .lt 21, 3) := by decide +kernel
theorem dX7_image_4 : decode cX7_image 4 = .ok (.iload_n 1, 1) := by decide +kernel
theorem dX7_image_5 : decode cX7_image 5 = .ok (.iconst 2, 1) := by decide +kernel
theorem dX7_image_6 : decode cX7_image 6 = .ok (.if_icmp .ge 16, 3) := by decide +kernel
theorem dX7_image_9 : decode cX7_image 9 = .ok (.iload_n 2, 1) := by decide +kernel
theorem dX7_image_10 : decode cX7_image 10 = .ok (.ifCond .eq 14, 3) := by decide +kernel
theorem dX7_image_13 : decode cX7_image 13 = .ok (.aload_n 0, 1) := by decide +kernel
theorem dX7_image_14 : decode cX7_image 14 = .ok (.getfield 34, 3) := by decide +kernel
theorem dX7_image_17 : decode cX7_image 17 = .ok (.iload_n 1, 1) := by decide +kernel
theorem dX7_image_18 : decode cX7_image 18 = .ok (.baload, 1) := by decide +kernel
theorem dX7_image_19 : decode cX7_image 19 = .ok (.ifCond .ne 5, 3) := by decide +kernel
theorem dX7_image_22 : decode cX7_image 22 = .ok (.iconst 0, 1) := by decide +kernel
theorem dX7_image_23 : decode cX7_image 23 = .ok (.ireturn, 1) := by decide +kernel
theorem dX7_image_24 : decode cX7_image 24 = .ok (.aload_n 0, 1) := by decide +kernel
theorem dX7_image_25 : decode cX7_image 25 = .ok (.getfield 31, 3) := by decide +kernel
theorem dX7_image_28 : decode cX7_image 28 = .ok (.iload_n 1, 1) := by decide +kernel
theorem dX7_image_29 : decode cX7_image 29 = .ok (.aaload, 1) := by decide +kernel
theorem dX7_image_30 : decode cX7_image 30 = .ok (.astore_n 3, 1) := by decide +kernel
theorem dX7_image_31 : decode cX7_image 31 = .ok (.aload_n 3, 1) := by decide +kernel
theorem dX7_image_32 : decode cX7_image 32 = .ok (.ifnonnull 18, 3) := by decide +kernel
theorem dX7_image_35 : decode cX7_image 35 = .ok (.new 16, 3) := by decide +kernel
theorem dX7_image_38 : decode cX7_image 38 = .ok (.dup, 1) := by decide +kernel
theorem dX7_image_39 : decode cX7_image 39 = .ok (.invokespecial 18, 3) := by decide +kernel
theorem dX7_image_42 : decode cX7_image 42 = .ok (.astore_n 3, 1) := by decide +kernel
theorem dX7_image_43 : decode cX7_image 43 = .ok (.aload_n 0, 1) := by decide +kernel
theorem dX7_image_44 : decode cX7_image 44 = .ok (.getfield 31, 3) := by decide +kernel
theorem dX7_image_47 : decode cX7_image 47 = .ok (.iload_n 1, 1) := by decide +kernel
theorem dX7_image_48 : decode cX7_image 48 = .ok (.aload_n 3, 1) := by decide +kernel
theorem dX7_image_49 : decode cX7_image 49 = .ok (.aastore, 1) := by decide +kernel
theorem dX7_image_50 : decode cX7_image 50 = .ok (.iload_n 2, 1) := by decide +kernel
theorem dX7_image_51 : decode cX7_image 51 = .ok (.ifCond .eq 19, 3) := by decide +kernel
theorem dX7_image_54 : decode cX7_image 54 = .ok (.aload_n 0, 1) := by decide +kernel
theorem dX7_image_55 : decode cX7_image 55 = .ok (.getfield 19, 3) := by decide +kernel
theorem dX7_image_58 : decode cX7_image 58 = .ok (.aload_n 3, 1) := by decide +kernel
theorem dX7_image_59 : decode cX7_image 59 = .ok (.invokevirtual 257, 3) := by decide +kernel
theorem dX7_image_62 : decode cX7_image 62 = .ok (.aload_n 0, 1) := by decide +kernel
theorem dX7_image_63 : decode cX7_image 63 = .ok (.iconst 0, 1) := by decide +kernel
theorem dX7_image_64 : decode cX7_image 64 = .ok (.putfield 27, 3) := by decide +kernel
theorem dX7_image_67 : decode cX7_image 67 = .ok (.goto 18, 3) := by decide +kernel
theorem dX7_image_70 : decode cX7_image 70 = .ok (.aload_n 3, 1) := by decide +kernel
theorem dX7_image_71 : decode cX7_image 71 = .ok (.aload_n 0, 1) := by decide +kernel
theorem dX7_image_72 : decode cX7_image 72 = .ok (.getfield 19, 3) := by decide +kernel
theorem dX7_image_75 : decode cX7_image 75 = .ok (.invokevirtual 257, 3) := by decide +kernel
theorem dX7_image_78 : decode cX7_image 78 = .ok (.aload_n 0, 1) := by decide +kernel
theorem dX7_image_79 : decode cX7_image 79 = .ok (.getfield 34, 3) := by decide +kernel
theorem dX7_image_82 : decode cX7_image 82 = .ok (.iload_n 1, 1) := by decide +kernel
theorem dX7_image_83 : decode cX7_image 83 = .ok (.iconst 1, 1) := by decide +kernel
theorem dX7_image_84 : decode cX7_image 84 = .ok (.bastore, 1) := by decide +kernel
theorem dX7_image_85 : decode cX7_image 85 = .ok (.iconst 1, 1) := by decide +kernel
theorem dX7_image_86 : decode cX7_image 86 = .ok (.ireturn, 1) := by decide +kernel
abbrev rX7_image : Room := { frames := 2, cells := 10, slots := 1152, locals := 61 }
theorem cal_X7_image : CalOk yX7_image cX7_image 4 (some .boolean) 2 := ⟨wm_4_65, wm_1_1, by decide, by decide, by decide +kernel⟩
def f_X7_image_50 (x0 : Nat) (x1 : Int32) (x2 : Int32) (x3 : Nat) (M : Mm) : Option (Int32 × Mm) :=
  (if x2 = 0 then
    ck (gK M x0 = 7) (bR (gR M x0 1) fun q1 => ck (gK M x3 = 5) (bd (f_X5_become x3 q1 M) fun _ M2 =>
    ck (gK M2 x0 = 7) (bR (gR M2 x0 5) fun q3 => ck (gK M2 q3 = 11 ∧ inb x1 (gN M2 q3)) (nm (sI M2 q3 (x1).toNatClampNeg (vp_nar .boolean (1 : Int32))) fun M4 =>
    some ((1 : Int32), M4)))))
  else
    ck (gK M x0 = 7) (bR (gR M x0 1) fun q5 => ck (gK M q5 = 5) (bd (f_X5_become q5 x3 M) fun _ M6 =>
    ck (gK M6 x0 = 7) (nm (sI M6 x0 3 (0 : Int32)) fun M7 =>
    some ((1 : Int32), M7)))))
set_option maxRecDepth 20000 in
set_option maxHeartbeats 4000000 in
theorem s_X7_image_50 {z : Zt} {K : Int32 → Mm → Prop} (hz : Good z RX7 cX7_image 4 rX7_image (some .boolean)) (hq : Ret z zI K) : ∀ (x0 : Nat) (x1 : Int32) (x2 : Int32) (x3 : Nat) (M : Mm), Sim z 50 [(0, .ref x0), (1, .int x1), (2, .int x2), (3, .ref x3)] [] M 10 1152 (f_X7_image_50 x0 x1 x2 x3 M) K := by
  intro x0 x1 x2 x3 M
  unfold f_X7_image_50
  refine r_iload_n hz dX7_image_50 2 rfl ?_
  refine r_if_eq (tgt := 70) hz dX7_image_51 rfl ?_ ?_
  · refine r_aload_n hz dX7_image_70 3 rfl ?_
    refine r_aload_n hz dX7_image_71 0 rfl ?_
    refine r_getR (j := 1) cl7 hz dX7_image_72 (by decide) wm_2_105 rfl (fun q1 => ?_)
    refine r_callVv (As := fun _ => [.ref q1]) cl5 hz (fun _ _ h => t_X5_become _ _ _ _ _ h) cal_X5_become dX7_image_75 wm_3_200 wm_3_201 wm_3_202 rfl rfl (Nat.le_of_ble_eq_true rfl) ⟨(Nat.le_of_ble_eq_true rfl), (Nat.le_of_ble_eq_true rfl)⟩ ⟨(Nat.le_of_ble_eq_true rfl), (Nat.le_of_ble_eq_true rfl)⟩ (fun _ M2 => ?_)
    refine r_aload_n hz dX7_image_78 0 rfl ?_
    refine r_getR (j := 5) cl7 hz dX7_image_79 (by decide) wm_2_109 rfl (fun q3 => ?_)
    refine r_iload_n hz dX7_image_82 1 rfl ?_
    refine r_iconst (v := 1) hz dX7_image_83 rfl ?_
    refine r_zast hz dX7_image_84 ?_
    refine r_nmM (fun M4 => ?_)
    refine r_iconst (v := 1) hz dX7_image_85 rfl ?_
    exact r_zret hz hq dX7_image_86 (Or.inr rfl) (Nat.le_of_ble_eq_true rfl) (Nat.le_of_ble_eq_true rfl)
  · refine r_aload_n hz dX7_image_54 0 rfl ?_
    refine r_getR (j := 1) cl7 hz dX7_image_55 (by decide) wm_2_105 rfl (fun q5 => ?_)
    refine r_aload_n hz dX7_image_58 3 rfl ?_
    refine r_callVv (As := fun _ => [.ref x3]) cl5 hz (fun _ _ h => t_X5_become _ _ _ _ _ h) cal_X5_become dX7_image_59 wm_3_200 wm_3_201 wm_3_202 rfl rfl (Nat.le_of_ble_eq_true rfl) ⟨(Nat.le_of_ble_eq_true rfl), (Nat.le_of_ble_eq_true rfl)⟩ ⟨(Nat.le_of_ble_eq_true rfl), (Nat.le_of_ble_eq_true rfl)⟩ (fun _ M6 => ?_)
    refine r_aload_n hz dX7_image_62 0 rfl ?_
    refine r_iconst (v := 0) hz dX7_image_63 rfl ?_
    refine r_putI (j := 3) cl7 hz dX7_image_64 (by decide) wm_2_107 (Or.inl rfl) rfl rfl rfl ?_
    refine r_nmM (fun M7 => ?_)
    refine r_goto (tgt := 85) hz dX7_image_67 rfl ?_
    refine r_iconst (v := 1) hz dX7_image_85 rfl ?_
    exact r_zret hz hq dX7_image_86 (Or.inr rfl) (Nat.le_of_ble_eq_true rfl) (Nat.le_of_ble_eq_true rfl)
def f_X7_image_24 (x0 : Nat) (x1 : Int32) (x2 : Int32) (M : Mm) : Option (Int32 × Mm) :=
  ck (gK M x0 = 7) (bR (gR M x0 4) fun q1 => ck (gK M q1 = 12 ∧ inb x1 (gN M q1)) (nm (gR M q1 (x1).toNatClampNeg) fun o2 =>
  (o2.elim
    (nm (gT M) fun q4 => nm (sN M 5 10) fun M5 =>
    bd (f_X5_init q4 M5) fun _ M6 =>
    ck (gK M6 x0 = 7) (bR (gR M6 x0 4) fun q7 => ck (gK M6 q7 = 12 ∧ inb x1 (gN M6 q7) ∧ gK M6 q4 = 5) (nm (sR M6 q7 (x1).toNatClampNeg (some q4)) fun M8 =>
    f_X7_image_50 x0 x1 x2 q4 M8)))
    (fun q3 =>
    f_X7_image_50 x0 x1 x2 q3 M))))
set_option maxRecDepth 20000 in
set_option maxHeartbeats 4000000 in
theorem s_X7_image_24 {z : Zt} {K : Int32 → Mm → Prop} (hz : Good z RX7 cX7_image 4 rX7_image (some .boolean)) (hq : Ret z zI K) : ∀ (x0 : Nat) (x1 : Int32) (x2 : Int32) (M : Mm), Sim z 24 [(0, .ref x0), (1, .int x1), (2, .int x2)] [] M 0 0 (f_X7_image_24 x0 x1 x2 M) K := by
  intro x0 x1 x2 M
  unfold f_X7_image_24
  refine r_aload_n hz dX7_image_24 0 rfl ?_
  refine r_getR (j := 4) cl7 hz dX7_image_25 (by decide) wm_2_108 rfl (fun q1 => ?_)
  refine r_iload_n hz dX7_image_28 1 rfl ?_
  refine r_aald (f := fun t => nm t _) hz dX7_image_29 (fun o20 => ?_)
  refine r_nmq (fun o2 => ?_)
  refine r_astore_nq (lv' := [(3, va_rf o2), (0, .ref x0), (1, .int x1), (2, .int x2)]) hz dX7_image_30 (by decide) rfl ?_
  refine r_aload_nq hz dX7_image_31 0 rfl ?_
  refine r_nn (tgt := 50) hz dX7_image_32 rfl (fun q3 e9 => ?_) (fun e9 => ?_)
  · subst e9
    refine r_sub [1, 2, 3, 0] rfl ?_
    refine r_cs (k' := 10) (n' := 1152) (Nat.le_of_ble_eq_true rfl) (Nat.le_of_ble_eq_true rfl) ?_
    exact s_X7_image_50 hz hq x0 x1 x2 q3 M
  · subst e9
    refine r_new cl5 hz dX7_image_35 wm_1_134 wm_1_135 wm_1_3 (Nat.le_of_ble_eq_true rfl) (Nat.le_of_ble_eq_true rfl) ?_
    refine r_nma (fun q4 => ?_)
    refine r_nmM (fun M5 => ?_)
    refine r_dup hz dX7_image_38 rfl ?_
    refine r_callIN (As := fun _ => []) (host := "DrawnBonds") hz (fun _ _ h => t_X5_init _ _ _ _ h) cal_X5_init rfl dX7_image_39 (List.mem_of_getElem? (i := 1) rfl) wm_1_137 rfl rfl (Nat.le_of_ble_eq_true rfl) ⟨(Nat.le_of_ble_eq_true rfl), (Nat.le_of_ble_eq_true rfl)⟩ ⟨(Nat.le_of_ble_eq_true rfl), (Nat.le_of_ble_eq_true rfl)⟩ (fun _ M6 => ?_)
    refine r_astore_n (lv' := [(3, .ref q4), (0, .ref x0), (1, .int x1), (2, .int x2)]) hz dX7_image_42 (by decide) (by first | rfl | (simp [va_rf_cat]; done) | (simp [Value.category]; done)) ?_
    refine r_aload_n hz dX7_image_43 1 rfl ?_
    refine r_getR (j := 4) cl7 hz dX7_image_44 (by decide) wm_2_108 rfl (fun q7 => ?_)
    refine r_iload_n hz dX7_image_47 2 rfl ?_
    refine r_aload_n hz dX7_image_48 0 rfl ?_
    refine r_aast hz dX7_image_49 ?_
    refine r_nmM (fun M8 => ?_)
    refine r_sub [1, 2, 3, 0] rfl ?_
    exact s_X7_image_50 hz hq x0 x1 x2 q4 M8
def f_X7_image (p0 : Nat) (p1 : Int32) (p2 : Int32) (M : Mm) : Option (Int32 × Mm) :=
  (if p1 < 0 then
    some ((0 : Int32), M)
  else
    (if (2 : Int32) ≤ p1 then
      some ((0 : Int32), M)
    else
      (if p2 = 0 then
        f_X7_image_24 p0 p1 p2 M
      else
        ck (gK M p0 = 7) (bR (gR M p0 5) fun q1 => ck (gK M q1 = 11 ∧ inb p1 (gN M q1)) ((if ¬ (gI M q1 (p1).toNatClampNeg) = 0 then
          f_X7_image_24 p0 p1 p2 M
        else
          some ((0 : Int32), M)))))))
set_option maxRecDepth 20000 in
set_option maxHeartbeats 4000000 in
theorem t_X7_image (p0 : Nat) (p1 : Int32) (p2 : Int32) (M : Mm) (x : Int32) (M' : Mm) (h : f_X7_image p0 p1 p2 M = some (x, M')) : Ctr yX7_image cX7_image 4 (some .boolean) rX7_image (fun _ => [.ref p0, .int p1, .int p2]) M (zI x) M' := by
  refine ctr_of (plainFor_of_name (by decide)) (fun _ => Nat.le_of_ble_eq_true rfl) (fun z hz hin hq => ?_)
  have key : Sim z 0 [(0, .ref p0), (1, .int p1), (2, .int p2)] [] M 0 0 (f_X7_image p0 p1 p2 M) (fun a b => a = x ∧ b = M') := by
    have hq : Ret z zI (fun a b => a = x ∧ b = M') := fun a b e => by rw [e.1, e.2]; exact hq
    unfold f_X7_image
    refine r_iload_n hz dX7_image_0 1 rfl ?_
    refine r_if_lt (tgt := 22) hz dX7_image_1 rfl ?_ ?_
    · refine r_iconst (v := 0) hz dX7_image_22 rfl ?_
      exact r_zret hz hq dX7_image_23 (Or.inl rfl) (Nat.le_of_ble_eq_true rfl) (Nat.le_of_ble_eq_true rfl)
    · refine r_iload_n hz dX7_image_4 1 rfl ?_
      refine r_iconst (v := 2) hz dX7_image_5 rfl ?_
      refine r_icmp_ge (tgt := 22) hz dX7_image_6 rfl ?_ ?_
      · refine r_iconst (v := 0) hz dX7_image_22 rfl ?_
        exact r_zret hz hq dX7_image_23 (Or.inl rfl) (Nat.le_of_ble_eq_true rfl) (Nat.le_of_ble_eq_true rfl)
      · refine r_iload_n hz dX7_image_9 2 rfl ?_
        refine r_if_eq (tgt := 24) hz dX7_image_10 rfl ?_ ?_
        · exact s_X7_image_24 hz hq p0 p1 p2 M
        · refine r_aload_n hz dX7_image_13 0 rfl ?_
          refine r_getR (j := 5) cl7 hz dX7_image_14 (by decide) wm_2_109 rfl (fun q1 => ?_)
          refine r_iload_n hz dX7_image_17 1 rfl ?_
          refine r_zald hz dX7_image_18 ?_
          refine r_if_ne (tgt := 24) hz dX7_image_19 rfl ?_ ?_
          · exact s_X7_image_24 hz hq p0 p1 p2 M
          · refine r_iconst (v := 0) hz dX7_image_22 rfl ?_
            exact r_zret hz hq dX7_image_23 (Or.inl rfl) (Nat.le_of_ble_eq_true rfl) (Nat.le_of_ble_eq_true rfl)
  exact key x M' h ⟨rfl, rfl⟩
theorem dX7_row_0 : decode cX7_row 0 = .ok (.aload_n 0, 1) := by decide +kernel
theorem dX7_row_1 : decode cX7_row 1 = .ok (.iload_n 1, 1) := by decide +kernel
theorem dX7_row_2 : decode cX7_row 2 = .ok (.iload_n 2, 1) := by decide +kernel
theorem dX7_row_3 : decode cX7_row 3 = .ok (.invokevirtual 253, 3) := by decide +kernel
theorem dX7_row_6 : decode cX7_row 6 = .ok (.ifCond .ne 5, 3) := by decide +kernel
theorem dX7_row_9 : decode cX7_row 9 = .ok (.iconst (-1), 1) := by decide +kernel
theorem dX7_row_10 : decode cX7_row 10 = .ok (.ireturn, 1) := by decide +kernel
theorem dX7_row_11 : decode cX7_row 11 = .ok (.aload_n 0, 1) := by decide +kernel
theorem dX7_row_12 : decode cX7_row 12 = .ok (.getfield 52, 3) := by decide +kernel
theorem dX7_row_15 : decode cX7_row 15 = .ok (.aload_n 0, 1) := by decide +kernel
theorem dX7_row_16 : decode cX7_row 16 = .ok (.getfield 10, 3) := by decide +kernel
theorem dX7_row_19 : decode cX7_row 19 = .ok (.aload_n 0, 1) := by decide +kernel
theorem dX7_row_20 : decode cX7_row 20 = .ok (.getfield 19, 3) := by decide +kernel
theorem dX7_row_23 : decode cX7_row 23 = .ok (.iload_n 1, 1) := by decide +kernel
theorem dX7_row_24 : decode cX7_row 24 = .ok (.invokevirtual 208, 3) := by decide +kernel
theorem dX7_row_27 : decode cX7_row 27 = .ok (.iload_n 3, 1) := by decide +kernel
theorem dX7_row_28 : decode cX7_row 28 = .ok (.tableswitch 100 0 5 #[40, 50, 60, 70, 80, 90], 40) := by decide +kernel
theorem dX7_row_68 : decode cX7_row 68 = .ok (.aload_n 0, 1) := by decide +kernel
theorem dX7_row_69 : decode cX7_row 69 = .ok (.getfield 52, 3) := by decide +kernel
theorem dX7_row_72 : decode cX7_row 72 = .ok (.getfield 261, 3) := by decide +kernel
theorem dX7_row_75 : decode cX7_row 75 = .ok (.iload_n 2, 1) := by decide +kernel
theorem dX7_row_76 : decode cX7_row 76 = .ok (.iaload, 1) := by decide +kernel
theorem dX7_row_77 : decode cX7_row 77 = .ok (.ireturn, 1) := by decide +kernel
theorem dX7_row_78 : decode cX7_row 78 = .ok (.aload_n 0, 1) := by decide +kernel
theorem dX7_row_79 : decode cX7_row 79 = .ok (.getfield 52, 3) := by decide +kernel
theorem dX7_row_82 : decode cX7_row 82 = .ok (.getfield 264, 3) := by decide +kernel
theorem dX7_row_85 : decode cX7_row 85 = .ok (.iload_n 2, 1) := by decide +kernel
theorem dX7_row_86 : decode cX7_row 86 = .ok (.iaload, 1) := by decide +kernel
theorem dX7_row_87 : decode cX7_row 87 = .ok (.ireturn, 1) := by decide +kernel
theorem dX7_row_88 : decode cX7_row 88 = .ok (.aload_n 0, 1) := by decide +kernel
theorem dX7_row_89 : decode cX7_row 89 = .ok (.getfield 52, 3) := by decide +kernel
theorem dX7_row_92 : decode cX7_row 92 = .ok (.getfield 225, 3) := by decide +kernel
theorem dX7_row_95 : decode cX7_row 95 = .ok (.iload_n 2, 1) := by decide +kernel
theorem dX7_row_96 : decode cX7_row 96 = .ok (.iaload, 1) := by decide +kernel
theorem dX7_row_97 : decode cX7_row 97 = .ok (.ireturn, 1) := by decide +kernel
theorem dX7_row_98 : decode cX7_row 98 = .ok (.aload_n 0, 1) := by decide +kernel
theorem dX7_row_99 : decode cX7_row 99 = .ok (.getfield 52, 3) := by decide +kernel
theorem dX7_row_102 : decode cX7_row 102 = .ok (.getfield 235, 3) := by decide +kernel
theorem dX7_row_105 : decode cX7_row 105 = .ok (.iload_n 2, 1) := by decide +kernel
theorem dX7_row_106 : decode cX7_row 106 = .ok (.iaload, 1) := by decide +kernel
theorem dX7_row_107 : decode cX7_row 107 = .ok (.ireturn, 1) := by decide +kernel
theorem dX7_row_108 : decode cX7_row 108 = .ok (.aload_n 0, 1) := by decide +kernel
theorem dX7_row_109 : decode cX7_row 109 = .ok (.getfield 52, 3) := by decide +kernel
theorem dX7_row_112 : decode cX7_row 112 = .ok (.getfield 222, 3) := by decide +kernel
theorem dX7_row_115 : decode cX7_row 115 = .ok (.iload_n 2, 1) := by decide +kernel
theorem dX7_row_116 : decode cX7_row 116 = .ok (.iaload, 1) := by decide +kernel
theorem dX7_row_117 : decode cX7_row 117 = .ok (.ireturn, 1) := by decide +kernel
theorem dX7_row_118 : decode cX7_row 118 = .ok (.aload_n 0, 1) := by decide +kernel
theorem dX7_row_119 : decode cX7_row 119 = .ok (.getfield 52, 3) := by decide +kernel
theorem dX7_row_122 : decode cX7_row 122 = .ok (.getfield 245, 3) := by decide +kernel
theorem dX7_row_125 : decode cX7_row 125 = .ok (.iload_n 2, 1) := by decide +kernel
theorem dX7_row_126 : decode cX7_row 126 = .ok (.iaload, 1) := by decide +kernel
theorem dX7_row_127 : decode cX7_row 127 = .ok (.ireturn, 1) := by decide +kernel
theorem dX7_row_128 : decode cX7_row 128 = .ok (.iconst (-1), 1) := by decide +kernel
theorem dX7_row_129 : decode cX7_row 129 = .ok (.ireturn, 1) := by decide +kernel
abbrev rX7_row : Room := { frames := 4, cells := 0, slots := 0, locals := 92 }
theorem cal_X7_row : CalOk yX7_row cX7_row 4 (some .int) 3 := ⟨wm_4_69, wm_1_1, by decide, by decide, by decide +kernel⟩
def f_X7_row (p0 : Nat) (p1 : Int32) (p2 : Int32) (p3 : Int32) (M : Mm) : Option (Int32 × Mm) :=
  ck (gK M p0 = 7) (bd (f_X7_isToCome p0 p1 p2 M) fun v2 M1 =>
  (if ¬ v2 = 0 then
    ck (gK M1 p0 = 7) (bR (gR M1 p0 8) fun q3 => ck (gK M1 p0 = 7) (bR (gR M1 p0 0) fun q4 => ck (gK M1 p0 = 7) (bR (gR M1 p0 1) fun q5 => ck (gK M1 q3 = 4) (bd (f_X4_foresee q3 q4 q5 p1 M1) fun _ M6 =>
    (if p3 = (0 : Int32) then
      ck (gK M6 p0 = 7) (bR (gR M6 p0 8) fun q7 => ck (gK M6 q7 = 4) (bR (gR M6 q7 11) fun q8 => ck (gK M6 q8 = 10 ∧ inb p2 (gN M6 q8)) (some ((gI M6 q8 (p2).toNatClampNeg), M6))))
    else
    (if p3 = (1 : Int32) then
      ck (gK M6 p0 = 7) (bR (gR M6 p0 8) fun q9 => ck (gK M6 q9 = 4) (bR (gR M6 q9 12) fun q10 => ck (gK M6 q10 = 10 ∧ inb p2 (gN M6 q10)) (some ((gI M6 q10 (p2).toNatClampNeg), M6))))
    else
    (if p3 = (2 : Int32) then
      ck (gK M6 p0 = 7) (bR (gR M6 p0 8) fun q11 => ck (gK M6 q11 = 4) (bR (gR M6 q11 13) fun q12 => ck (gK M6 q12 = 10 ∧ inb p2 (gN M6 q12)) (some ((gI M6 q12 (p2).toNatClampNeg), M6))))
    else
    (if p3 = (3 : Int32) then
      ck (gK M6 p0 = 7) (bR (gR M6 p0 8) fun q13 => ck (gK M6 q13 = 4) (bR (gR M6 q13 14) fun q14 => ck (gK M6 q14 = 10 ∧ inb p2 (gN M6 q14)) (some ((gI M6 q14 (p2).toNatClampNeg), M6))))
    else
    (if p3 = (4 : Int32) then
      ck (gK M6 p0 = 7) (bR (gR M6 p0 8) fun q15 => ck (gK M6 q15 = 4) (bR (gR M6 q15 15) fun q16 => ck (gK M6 q16 = 10 ∧ inb p2 (gN M6 q16)) (some ((gI M6 q16 (p2).toNatClampNeg), M6))))
    else
    (if p3 = (5 : Int32) then
      ck (gK M6 p0 = 7) (bR (gR M6 p0 8) fun q17 => ck (gK M6 q17 = 4) (bR (gR M6 q17 16) fun q18 => ck (gK M6 q18 = 10 ∧ inb p2 (gN M6 q18)) (some ((gI M6 q18 (p2).toNatClampNeg), M6))))
    else
      some ((-1 : Int32), M6)))))))))))
  else
    some ((-1 : Int32), M1)))
set_option maxRecDepth 20000 in
set_option maxHeartbeats 4000000 in
theorem t_X7_row (p0 : Nat) (p1 : Int32) (p2 : Int32) (p3 : Int32) (M : Mm) (x : Int32) (M' : Mm) (h : f_X7_row p0 p1 p2 p3 M = some (x, M')) : Ctr yX7_row cX7_row 4 (some .int) rX7_row (fun _ => [.ref p0, .int p1, .int p2, .int p3]) M (zI x) M' := by
  refine ctr_of (plainFor_of_name (by decide)) (fun _ => Nat.le_of_ble_eq_true rfl) (fun z hz hin hq => ?_)
  have key : Sim z 0 [(0, .ref p0), (1, .int p1), (2, .int p2), (3, .int p3)] [] M 0 0 (f_X7_row p0 p1 p2 p3 M) (fun a b => a = x ∧ b = M') := by
    have hq : Ret z zI (fun a b => a = x ∧ b = M') := fun a b e => by rw [e.1, e.2]; exact hq
    unfold f_X7_row
    refine r_aload_n hz dX7_row_0 0 rfl ?_
    refine r_iload_n hz dX7_row_1 1 rfl ?_
    refine r_iload_n hz dX7_row_2 2 rfl ?_
    refine r_callVi (As := fun _ => [.int p1, .int p2]) cl7 hz (fun _ _ h => t_X7_isToCome _ _ _ _ _ _ h) cal_X7_isToCome dX7_row_3 wm_4_49 wm_4_51 wm_p_37 rfl rfl (Nat.le_of_ble_eq_true rfl) ⟨(Nat.le_of_ble_eq_true rfl), (Nat.le_of_ble_eq_true rfl)⟩ ⟨(Nat.le_of_ble_eq_true rfl), (Nat.le_of_ble_eq_true rfl)⟩ (fun v2 M1 => ?_)
    refine r_if_ne (tgt := 11) hz dX7_row_6 rfl ?_ ?_
    · refine r_aload_n hz dX7_row_11 0 rfl ?_
      refine r_getR (j := 8) cl7 hz dX7_row_12 (by decide) wm_2_112 rfl (fun q3 => ?_)
      refine r_aload_n hz dX7_row_15 0 rfl ?_
      refine r_getR (j := 0) cl7 hz dX7_row_16 (by decide) wm_2_104 rfl (fun q4 => ?_)
      refine r_aload_n hz dX7_row_19 0 rfl ?_
      refine r_getR (j := 1) cl7 hz dX7_row_20 (by decide) wm_2_105 rfl (fun q5 => ?_)
      refine r_iload_n hz dX7_row_23 1 rfl ?_
      refine r_callVv (As := fun _ => [.ref q4, .ref q5, .int p1]) cl4 hz (fun _ _ h => t_X4_foresee _ _ _ _ _ _ _ h) cal_X4_foresee dX7_row_24 wm_3_208 wm_3_209 wm_3_210 rfl rfl (Nat.le_of_ble_eq_true rfl) ⟨(Nat.le_of_ble_eq_true rfl), (Nat.le_of_ble_eq_true rfl)⟩ ⟨(Nat.le_of_ble_eq_true rfl), (Nat.le_of_ble_eq_true rfl)⟩ (fun _ M6 => ?_)
      refine r_iload_n hz dX7_row_27 3 rfl ?_
      refine r_swc (v := 0) (tgt := 68) hz dX7_row_28 (by decide) (by decide) rfl rfl ?_ (fun n0 => ?_)
      · refine r_aload_n hz dX7_row_68 0 rfl ?_
        refine r_getR (j := 8) cl7 hz dX7_row_69 (by decide) wm_2_112 rfl (fun q7 => ?_)
        refine r_getR (j := 11) cl4 hz dX7_row_72 (by decide) wm_2_11 rfl (fun q8 => ?_)
        refine r_iload_n hz dX7_row_75 2 rfl ?_
        refine r_iald hz dX7_row_76 ?_
        exact r_iret hz hq dX7_row_77 (Nat.le_of_ble_eq_true rfl) (Nat.le_of_ble_eq_true rfl)
      refine r_swc (v := 1) (tgt := 78) hz dX7_row_28 (by decide) (by decide) rfl rfl ?_ (fun n1 => ?_)
      · refine r_aload_n hz dX7_row_78 0 rfl ?_
        refine r_getR (j := 8) cl7 hz dX7_row_79 (by decide) wm_2_112 rfl (fun q9 => ?_)
        refine r_getR (j := 12) cl4 hz dX7_row_82 (by decide) wm_2_13 rfl (fun q10 => ?_)
        refine r_iload_n hz dX7_row_85 2 rfl ?_
        refine r_iald hz dX7_row_86 ?_
        exact r_iret hz hq dX7_row_87 (Nat.le_of_ble_eq_true rfl) (Nat.le_of_ble_eq_true rfl)
      refine r_swc (v := 2) (tgt := 88) hz dX7_row_28 (by decide) (by decide) rfl rfl ?_ (fun n2 => ?_)
      · refine r_aload_n hz dX7_row_88 0 rfl ?_
        refine r_getR (j := 8) cl7 hz dX7_row_89 (by decide) wm_2_112 rfl (fun q11 => ?_)
        refine r_getR (j := 13) cl4 hz dX7_row_92 (by decide) wm_2_15 rfl (fun q12 => ?_)
        refine r_iload_n hz dX7_row_95 2 rfl ?_
        refine r_iald hz dX7_row_96 ?_
        exact r_iret hz hq dX7_row_97 (Nat.le_of_ble_eq_true rfl) (Nat.le_of_ble_eq_true rfl)
      refine r_swc (v := 3) (tgt := 98) hz dX7_row_28 (by decide) (by decide) rfl rfl ?_ (fun n3 => ?_)
      · refine r_aload_n hz dX7_row_98 0 rfl ?_
        refine r_getR (j := 8) cl7 hz dX7_row_99 (by decide) wm_2_112 rfl (fun q13 => ?_)
        refine r_getR (j := 14) cl4 hz dX7_row_102 (by decide) wm_2_17 rfl (fun q14 => ?_)
        refine r_iload_n hz dX7_row_105 2 rfl ?_
        refine r_iald hz dX7_row_106 ?_
        exact r_iret hz hq dX7_row_107 (Nat.le_of_ble_eq_true rfl) (Nat.le_of_ble_eq_true rfl)
      refine r_swc (v := 4) (tgt := 108) hz dX7_row_28 (by decide) (by decide) rfl rfl ?_ (fun n4 => ?_)
      · refine r_aload_n hz dX7_row_108 0 rfl ?_
        refine r_getR (j := 8) cl7 hz dX7_row_109 (by decide) wm_2_112 rfl (fun q15 => ?_)
        refine r_getR (j := 15) cl4 hz dX7_row_112 (by decide) wm_2_19 rfl (fun q16 => ?_)
        refine r_iload_n hz dX7_row_115 2 rfl ?_
        refine r_iald hz dX7_row_116 ?_
        exact r_iret hz hq dX7_row_117 (Nat.le_of_ble_eq_true rfl) (Nat.le_of_ble_eq_true rfl)
      refine r_swc (v := 5) (tgt := 118) hz dX7_row_28 (by decide) (by decide) rfl rfl ?_ (fun n5 => ?_)
      · refine r_aload_n hz dX7_row_118 0 rfl ?_
        refine r_getR (j := 8) cl7 hz dX7_row_119 (by decide) wm_2_112 rfl (fun q17 => ?_)
        refine r_getR (j := 16) cl4 hz dX7_row_122 (by decide) wm_2_21 rfl (fun q18 => ?_)
        refine r_iload_n hz dX7_row_125 2 rfl ?_
        refine r_iald hz dX7_row_126 ?_
        exact r_iret hz hq dX7_row_127 (Nat.le_of_ble_eq_true rfl) (Nat.le_of_ble_eq_true rfl)
      refine r_swd (tgt := 128) hz dX7_row_28 (by have n0q := lv_neT n0 (show (0 : Int32).toInt = 0 from rfl); have n1q := lv_neT n1 (show (1 : Int32).toInt = 1 from rfl); have n2q := lv_neT n2 (show (2 : Int32).toInt = 2 from rfl); have n3q := lv_neT n3 (show (3 : Int32).toInt = 3 from rfl); have n4q := lv_neT n4 (show (4 : Int32).toInt = 4 from rfl); have n5q := lv_neT n5 (show (5 : Int32).toInt = 5 from rfl); omega) rfl ?_
      refine r_iconst (v := -1) hz dX7_row_128 rfl ?_
      exact r_iret hz hq dX7_row_129 (Nat.le_of_ble_eq_true rfl) (Nat.le_of_ble_eq_true rfl)
    · refine r_iconst (v := -1) hz dX7_row_9 rfl ?_
      exact r_iret hz hq dX7_row_10 (Nat.le_of_ble_eq_true rfl) (Nat.le_of_ble_eq_true rfl)
  exact key x M' h ⟨rfl, rfl⟩
