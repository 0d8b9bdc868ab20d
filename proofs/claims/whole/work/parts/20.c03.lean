theorem dX3_read_0 : decode cX3_read 0 = .ok (.aload_n 0, 1) := by decide +kernel
theorem dX3_read_1 : decode cX3_read 1 = .ok (.getfield 25, 3) := by decide +kernel
theorem dX3_read_4 : decode cX3_read 4 = .ok (.invokevirtual 44, 3) := by decide +kernel
theorem dX3_read_7 : decode cX3_read 7 = .ok (.aload_n 0, 1) := by decide +kernel
theorem dX3_read_8 : decode cX3_read 8 = .ok (.iload_n 1, 1) := by decide +kernel
theorem dX3_read_9 : decode cX3_read 9 = .ok (.aload_n 0, 1) := by decide +kernel
theorem dX3_read_10 : decode cX3_read 10 = .ok (.getfield 15, 3) := by decide +kernel
theorem dX3_read_13 : decode cX3_read 13 = .ok (.invokestatic 47, 3) := by decide +kernel
theorem dX3_read_16 : decode cX3_read 16 = .ok (.putfield 19, 3) := by decide +kernel
theorem dX3_read_19 : decode cX3_read 19 = .ok (.aload_n 0, 1) := by decide +kernel
theorem dX3_read_20 : decode cX3_read 20 = .ok (.iconst 0, 1) := by decide +kernel
theorem dX3_read_21 : decode cX3_read 21 = .ok (.putfield 15, 3) := by decide +kernel
theorem dX3_read_24 : decode cX3_read 24 = .ok (.aload_n 0, 1) := by decide +kernel
theorem dX3_read_25 : decode cX3_read 25 = .ok (.iconst 0, 1) := by decide +kernel
theorem dX3_read_26 : decode cX3_read 26 = .ok (.putfield 35, 3) := by decide +kernel
theorem dX3_read_29 : decode cX3_read 29 = .ok (.aload_n 0, 1) := by decide +kernel
theorem dX3_read_30 : decode cX3_read 30 = .ok (.iconst 0, 1) := by decide +kernel
theorem dX3_read_31 : decode cX3_read 31 = .ok (.putfield 41, 3) := by decide +kernel
theorem dX3_read_34 : decode cX3_read 34 = .ok (.aload_n 0, 1) := by decide +kernel
theorem dX3_read_35 : decode cX3_read 35 = .ok (.invokevirtual 53, 3) := by decide +kernel
theorem dX3_read_38 : decode cX3_read 38 = .ok (.iconst 0, 1) := by decide +kernel
theorem dX3_read_39 : decode cX3_read 39 = .ok (.istore_n 2, 1) := by decide +kernel
theorem dX3_read_40 : decode cX3_read 40 = .ok (.iload_n 2, 1) := by decide +kernel
theorem dX3_read_41 : decode cX3_read 41 = .ok (.aload_n 0, 1) := by decide +kernel
theorem dX3_read_42 : decode cX3_read 42 = .ok (.getfield 19, 3) := by decide +kernel
theorem dX3_read_45 : decode cX3_read 45 = .ok (.if_icmp .gt 118, 3) := by decide +kernel
theorem dX3_read_48 : decode cX3_read 48 = .ok (.aload_n 0, 1) := by decide +kernel
theorem dX3_read_49 : decode cX3_read 49 = .ok (.getfield 32, 3) := by decide +kernel
theorem dX3_read_52 : decode cX3_read 52 = .ok (.aload_n 0, 1) := by decide +kernel
theorem dX3_read_53 : decode cX3_read 53 = .ok (.getfield 19, 3) := by decide +kernel
theorem dX3_read_56 : decode cX3_read 56 = .ok (.if_icmp .ge 107, 3) := by decide +kernel
theorem dX3_read_59 : decode cX3_read 59 = .ok (.aload_n 0, 1) := by decide +kernel
theorem dX3_read_60 : decode cX3_read 60 = .ok (.ldc 56, 2) := by decide +kernel
theorem dX3_read_62 : decode cX3_read 62 = .ok (.invokevirtual 58, 3) := by decide +kernel
theorem dX3_read_65 : decode cX3_read 65 = .ok (.ifCond .eq 10, 3) := by decide +kernel
theorem dX3_read_68 : decode cX3_read 68 = .ok (.aload_n 0, 1) := by decide +kernel
theorem dX3_read_69 : decode cX3_read 69 = .ok (.invokevirtual 62, 3) := by decide +kernel
theorem dX3_read_72 : decode cX3_read 72 = .ok (.goto 72, 3) := by decide +kernel
theorem dX3_read_75 : decode cX3_read 75 = .ok (.aload_n 0, 1) := by decide +kernel
theorem dX3_read_76 : decode cX3_read 76 = .ok (.ldc 66, 2) := by decide +kernel
theorem dX3_read_78 : decode cX3_read 78 = .ok (.invokevirtual 58, 3) := by decide +kernel
theorem dX3_read_81 : decode cX3_read 81 = .ok (.ifCond .eq 10, 3) := by decide +kernel
theorem dX3_read_84 : decode cX3_read 84 = .ok (.aload_n 0, 1) := by decide +kernel
theorem dX3_read_85 : decode cX3_read 85 = .ok (.invokevirtual 68, 3) := by decide +kernel
theorem dX3_read_88 : decode cX3_read 88 = .ok (.goto 56, 3) := by decide +kernel
theorem dX3_read_91 : decode cX3_read 91 = .ok (.aload_n 0, 1) := by decide +kernel
theorem dX3_read_92 : decode cX3_read 92 = .ok (.ldc 71, 2) := by decide +kernel
theorem dX3_read_94 : decode cX3_read 94 = .ok (.invokevirtual 58, 3) := by decide +kernel
theorem dX3_read_97 : decode cX3_read 97 = .ok (.ifCond .eq 10, 3) := by decide +kernel
theorem dX3_read_100 : decode cX3_read 100 = .ok (.aload_n 0, 1) := by decide +kernel
theorem dX3_read_101 : decode cX3_read 101 = .ok (.invokevirtual 73, 3) := by decide +kernel
theorem dX3_read_104 : decode cX3_read 104 = .ok (.goto 40, 3) := by decide +kernel
theorem dX3_read_107 : decode cX3_read 107 = .ok (.aload_n 0, 1) := by decide +kernel
theorem dX3_read_108 : decode cX3_read 108 = .ok (.ldc 76, 2) := by decide +kernel
theorem dX3_read_110 : decode cX3_read 110 = .ok (.invokevirtual 58, 3) := by decide +kernel
theorem dX3_read_113 : decode cX3_read 113 = .ok (.ifCond .eq 10, 3) := by decide +kernel
theorem dX3_read_116 : decode cX3_read 116 = .ok (.aload_n 0, 1) := by decide +kernel
theorem dX3_read_117 : decode cX3_read 117 = .ok (.invokevirtual 78, 3) := by decide +kernel
theorem dX3_read_120 : decode cX3_read 120 = .ok (.goto 24, 3) := by decide +kernel
theorem dX3_read_123 : decode cX3_read 123 = .ok (.aload_n 0, 1) := by decide +kernel
theorem dX3_read_124 : decode cX3_read 124 = .ok (.ldc 81, 2) := by decide +kernel
theorem dX3_read_126 : decode cX3_read 126 = .ok (.invokevirtual 58, 3) := by decide +kernel
theorem dX3_read_129 : decode cX3_read 129 = .ok (.ifCond .eq 10, 3) := by decide +kernel
theorem dX3_read_132 : decode cX3_read 132 = .ok (.aload_n 0, 1) := by decide +kernel
theorem dX3_read_133 : decode cX3_read 133 = .ok (.invokevirtual 83, 3) := by decide +kernel
theorem dX3_read_136 : decode cX3_read 136 = .ok (.goto 8, 3) := by decide +kernel
theorem dX3_read_139 : decode cX3_read 139 = .ok (.aload_n 0, 1) := by decide +kernel
theorem dX3_read_140 : decode cX3_read 140 = .ok (.iconst 1, 1) := by decide +kernel
theorem dX3_read_141 : decode cX3_read 141 = .ok (.invokevirtual 86, 3) := by decide +kernel
theorem dX3_read_144 : decode cX3_read 144 = .ok (.istore_n 3, 1) := by decide +kernel
theorem dX3_read_145 : decode cX3_read 145 = .ok (.iload_n 3, 1) := by decide +kernel
theorem dX3_read_146 : decode cX3_read 146 = .ok (.ifCond .ne 11, 3) := by decide +kernel
theorem dX3_read_149 : decode cX3_read 149 = .ok (.bipush (-2), 2) := by decide +kernel
theorem dX3_read_151 : decode cX3_read 151 = .ok (.aload_n 0, 1) := by decide +kernel
theorem dX3_read_152 : decode cX3_read 152 = .ok (.getfield 41, 3) := by decide +kernel
theorem dX3_read_155 : decode cX3_read 155 = .ok (.isub, 1) := by decide +kernel
theorem dX3_read_156 : decode cX3_read 156 = .ok (.ireturn, 1) := by decide +kernel
theorem dX3_read_157 : decode cX3_read 157 = .ok (.iinc 2 1, 3) := by decide +kernel
theorem dX3_read_160 : decode cX3_read 160 = .ok (.goto (-120), 3) := by decide +kernel
theorem dX3_read_163 : decode cX3_read 163 = .ok (.iload_n 2, 1) := by decide +kernel
theorem dX3_read_164 : decode cX3_read 164 = .ok (.ireturn, 1) := by decide +kernel
abbrev rX3_read : Room := { frames := 11, cells := 0, slots := 0, locals := 257 }
theorem cal_X3_read : CalOk yX3_read cX3_read 4 (some .int) 1 := ⟨wm_2_156, wm_1_4, by decide, by decide, by decide +kernel⟩
def f_X3_read_40 : Nat → Nat → Int32 → Mm → Option (Int32 × Mm)
  | 0, _, _, _ => none
  | n + 1, x0, x2, M =>
    ck (gK M x0 = 3) ((if (gI M x0 2) < x2 then
      some (x2, M)
    else
      ck (gK M x0 = 3) (ck (gK M x0 = 3) ((if (gI M x0 2) ≤ (gI M x0 5) then
        some (x2, M)
      else
        ck (gK M x0 = 3) (bd (f_X3_spells x0 0 M) fun v2 M1 =>
        (if v2 = 0 then
          ck (gK M1 x0 = 3) (bd (f_X3_spells x0 9 M1) fun v4 M3 =>
          (if v4 = 0 then
            ck (gK M3 x0 = 3) (bd (f_X3_spells x0 11 M3) fun v6 M5 =>
            (if v6 = 0 then
              ck (gK M5 x0 = 3) (bd (f_X3_spells x0 12 M5) fun v8 M7 =>
              (if v8 = 0 then
                ck (gK M7 x0 = 3) (bd (f_X3_spells x0 13 M7) fun v10 M9 =>
                (if v10 = 0 then
                  ck (gK M9 x0 = 3) (bd (f_X3_refuse x0 (1 : Int32) M9) fun v12 M11 =>
                  (if ¬ v12 = 0 then
                    f_X3_read_40 n x0 (x2 + (1 : Int32)) M11
                  else
                    ck (gK M11 x0 = 3) (some (((-2 : Int32) - (gI M11 x0 8)), M11))))
                else
                  ck (gK M9 x0 = 3) (bd (f_X3_readPrice x0 M9) fun v15 M14 =>
                  (if ¬ v15 = 0 then
                    f_X3_read_40 n x0 (x2 + (1 : Int32)) M14
                  else
                    ck (gK M14 x0 = 3) (some (((-2 : Int32) - (gI M14 x0 8)), M14))))))
              else
                ck (gK M7 x0 = 3) (bd (f_X3_readPrize x0 M7) fun v18 M17 =>
                (if ¬ v18 = 0 then
                  f_X3_read_40 n x0 (x2 + (1 : Int32)) M17
                else
                  ck (gK M17 x0 = 3) (some (((-2 : Int32) - (gI M17 x0 8)), M17))))))
            else
              ck (gK M5 x0 = 3) (bd (f_X3_readHolds x0 M5) fun v21 M20 =>
              (if ¬ v21 = 0 then
                f_X3_read_40 n x0 (x2 + (1 : Int32)) M20
              else
                ck (gK M20 x0 = 3) (some (((-2 : Int32) - (gI M20 x0 8)), M20))))))
          else
            ck (gK M3 x0 = 3) (bd (f_X3_readHolder x0 M3) fun v24 M23 =>
            (if ¬ v24 = 0 then
              f_X3_read_40 n x0 (x2 + (1 : Int32)) M23
            else
              ck (gK M23 x0 = 3) (some (((-2 : Int32) - (gI M23 x0 8)), M23))))))
        else
          ck (gK M1 x0 = 3) (bd (f_X3_readLoan x0 M1) fun v27 M26 =>
          (if ¬ v27 = 0 then
            f_X3_read_40 n x0 (x2 + (1 : Int32)) M26
          else
            ck (gK M26 x0 = 3) (some (((-2 : Int32) - (gI M26 x0 8)), M26)))))))))))
set_option maxRecDepth 20000 in
set_option maxHeartbeats 4000000 in
theorem s_X3_read_40 {z : Zt} {K : Int32 → Mm → Prop} (hz : Good z RX3 cX3_read 4 rX3_read (some .int)) (hq : Ret z zI K) : ∀ (n : Nat) (x0 : Nat) (x2 : Int32) (M : Mm), Sim z 40 [(0, .ref x0), (2, .int x2)] [] M 0 0 (f_X3_read_40 n x0 x2 M) K := by
  intro n
  induction n with
  | zero => exact fun _ _ _ => r_none
  | succ n ih =>
    intro x0 x2 M
    unfold f_X3_read_40
    refine r_iload_n hz dX3_read_40 1 rfl ?_
    refine r_aload_n hz dX3_read_41 0 rfl ?_
    refine r_getI (j := 2) cl3 hz dX3_read_42 (by decide) wm_1_200 rfl ?_
    refine r_icmp_gt (tgt := 163) hz dX3_read_45 rfl ?_ ?_
    · refine r_iload_n hz dX3_read_163 1 rfl ?_
      exact r_iret hz hq dX3_read_164 (Nat.le_of_ble_eq_true rfl) (Nat.le_of_ble_eq_true rfl)
    · refine r_aload_n hz dX3_read_48 0 rfl ?_
      refine r_getI (j := 5) cl3 hz dX3_read_49 (by decide) wm_1_203 rfl ?_
      refine r_aload_n hz dX3_read_52 0 rfl ?_
      refine r_getI (j := 2) cl3 hz dX3_read_53 (by decide) wm_1_200 rfl ?_
      refine r_icmp_ge (tgt := 163) hz dX3_read_56 rfl ?_ ?_
      · refine r_iload_n hz dX3_read_163 1 rfl ?_
        exact r_iret hz hq dX3_read_164 (Nat.le_of_ble_eq_true rfl) (Nat.le_of_ble_eq_true rfl)
      · refine r_aload_n hz dX3_read_59 0 rfl ?_
        refine r_ldcS hz dX3_read_60 0 rfl ?_
        refine r_callVi (As := fun g => [.ref (g.2.2.2.1 0)]) cl3 hz (fun _ _ h => t_X3_spells _ _ _ _ _ h) cal_X3_spells dX3_read_62 wm_2_179 wm_2_181 wm_p_2 rfl rfl (Nat.le_of_ble_eq_true rfl) ⟨(Nat.le_of_ble_eq_true rfl), (Nat.le_of_ble_eq_true rfl)⟩ ⟨(Nat.le_of_ble_eq_true rfl), (Nat.le_of_ble_eq_true rfl)⟩ (fun v2 M1 => ?_)
        refine r_if_eq (tgt := 75) hz dX3_read_65 rfl ?_ ?_
        · refine r_aload_n hz dX3_read_75 0 rfl ?_
          refine r_ldcS hz dX3_read_76 9 rfl ?_
          refine r_callVi (As := fun g => [.ref (g.2.2.2.1 9)]) cl3 hz (fun _ _ h => t_X3_spells _ _ _ _ _ h) cal_X3_spells dX3_read_78 wm_2_179 wm_2_181 wm_p_2 rfl rfl (Nat.le_of_ble_eq_true rfl) ⟨(Nat.le_of_ble_eq_true rfl), (Nat.le_of_ble_eq_true rfl)⟩ ⟨(Nat.le_of_ble_eq_true rfl), (Nat.le_of_ble_eq_true rfl)⟩ (fun v4 M3 => ?_)
          refine r_if_eq (tgt := 91) hz dX3_read_81 rfl ?_ ?_
          · refine r_aload_n hz dX3_read_91 0 rfl ?_
            refine r_ldcS hz dX3_read_92 11 rfl ?_
            refine r_callVi (As := fun g => [.ref (g.2.2.2.1 11)]) cl3 hz (fun _ _ h => t_X3_spells _ _ _ _ _ h) cal_X3_spells dX3_read_94 wm_2_179 wm_2_181 wm_p_2 rfl rfl (Nat.le_of_ble_eq_true rfl) ⟨(Nat.le_of_ble_eq_true rfl), (Nat.le_of_ble_eq_true rfl)⟩ ⟨(Nat.le_of_ble_eq_true rfl), (Nat.le_of_ble_eq_true rfl)⟩ (fun v6 M5 => ?_)
            refine r_if_eq (tgt := 107) hz dX3_read_97 rfl ?_ ?_
            · refine r_aload_n hz dX3_read_107 0 rfl ?_
              refine r_ldcS hz dX3_read_108 12 rfl ?_
              refine r_callVi (As := fun g => [.ref (g.2.2.2.1 12)]) cl3 hz (fun _ _ h => t_X3_spells _ _ _ _ _ h) cal_X3_spells dX3_read_110 wm_2_179 wm_2_181 wm_p_2 rfl rfl (Nat.le_of_ble_eq_true rfl) ⟨(Nat.le_of_ble_eq_true rfl), (Nat.le_of_ble_eq_true rfl)⟩ ⟨(Nat.le_of_ble_eq_true rfl), (Nat.le_of_ble_eq_true rfl)⟩ (fun v8 M7 => ?_)
              refine r_if_eq (tgt := 123) hz dX3_read_113 rfl ?_ ?_
              · refine r_aload_n hz dX3_read_123 0 rfl ?_
                refine r_ldcS hz dX3_read_124 13 rfl ?_
                refine r_callVi (As := fun g => [.ref (g.2.2.2.1 13)]) cl3 hz (fun _ _ h => t_X3_spells _ _ _ _ _ h) cal_X3_spells dX3_read_126 wm_2_179 wm_2_181 wm_p_2 rfl rfl (Nat.le_of_ble_eq_true rfl) ⟨(Nat.le_of_ble_eq_true rfl), (Nat.le_of_ble_eq_true rfl)⟩ ⟨(Nat.le_of_ble_eq_true rfl), (Nat.le_of_ble_eq_true rfl)⟩ (fun v10 M9 => ?_)
                refine r_if_eq (tgt := 139) hz dX3_read_129 rfl ?_ ?_
                · refine r_aload_n hz dX3_read_139 0 rfl ?_
                  refine r_iconst (v := 1) hz dX3_read_140 rfl ?_
                  refine r_callVi (As := fun _ => [.int (1 : Int32)]) cl3 hz (fun _ _ h => t_X3_refuse _ _ _ _ _ h) cal_X3_refuse dX3_read_141 wm_2_235 wm_2_237 wm_p_4 rfl rfl (Nat.le_of_ble_eq_true rfl) ⟨(Nat.le_of_ble_eq_true rfl), (Nat.le_of_ble_eq_true rfl)⟩ ⟨(Nat.le_of_ble_eq_true rfl), (Nat.le_of_ble_eq_true rfl)⟩ (fun v12 M11 => ?_)
                  refine r_istore_n (lv' := [(3, .int v12), (0, .ref x0), (2, .int x2)]) hz dX3_read_144 (by decide) rfl ?_
                  refine r_iload_n hz dX3_read_145 0 rfl ?_
                  refine r_if_ne (tgt := 157) hz dX3_read_146 rfl ?_ ?_
                  · refine r_iinc (v := (x2 + (1 : Int32))) (lv' := [(2, .int (x2 + (1 : Int32))), (3, .int v12), (0, .ref x0)]) hz dX3_read_157 2 rfl rfl (by decide) rfl ?_
                    refine r_goto (tgt := 40) hz dX3_read_160 rfl ?_
                    refine r_sub [2, 0] rfl ?_
                    exact ih x0 (x2 + (1 : Int32)) M11
                  · refine r_bipush (v := -2) hz dX3_read_149 rfl ?_
                    refine r_aload_n hz dX3_read_151 1 rfl ?_
                    refine r_getI (j := 8) cl3 hz dX3_read_152 (by decide) wm_1_206 rfl ?_
                    refine r_isub hz dX3_read_155 ?_
                    exact r_iret hz hq dX3_read_156 (Nat.le_of_ble_eq_true rfl) (Nat.le_of_ble_eq_true rfl)
                · refine r_aload_n hz dX3_read_132 0 rfl ?_
                  refine r_callVi (As := fun _ => []) cl3 hz (fun _ _ h => t_X3_readPrice _ _ _ _ h) cal_X3_readPrice dX3_read_133 wm_3_95 wm_3_97 wm_p_20 rfl rfl (Nat.le_of_ble_eq_true rfl) ⟨(Nat.le_of_ble_eq_true rfl), (Nat.le_of_ble_eq_true rfl)⟩ ⟨(Nat.le_of_ble_eq_true rfl), (Nat.le_of_ble_eq_true rfl)⟩ (fun v15 M14 => ?_)
                  refine r_goto (tgt := 144) hz dX3_read_136 rfl ?_
                  refine r_istore_n (lv' := [(3, .int v15), (0, .ref x0), (2, .int x2)]) hz dX3_read_144 (by decide) rfl ?_
                  refine r_iload_n hz dX3_read_145 0 rfl ?_
                  refine r_if_ne (tgt := 157) hz dX3_read_146 rfl ?_ ?_
                  · refine r_iinc (v := (x2 + (1 : Int32))) (lv' := [(2, .int (x2 + (1 : Int32))), (3, .int v15), (0, .ref x0)]) hz dX3_read_157 2 rfl rfl (by decide) rfl ?_
                    refine r_goto (tgt := 40) hz dX3_read_160 rfl ?_
                    refine r_sub [2, 0] rfl ?_
                    exact ih x0 (x2 + (1 : Int32)) M14
                  · refine r_bipush (v := -2) hz dX3_read_149 rfl ?_
                    refine r_aload_n hz dX3_read_151 1 rfl ?_
                    refine r_getI (j := 8) cl3 hz dX3_read_152 (by decide) wm_1_206 rfl ?_
                    refine r_isub hz dX3_read_155 ?_
                    exact r_iret hz hq dX3_read_156 (Nat.le_of_ble_eq_true rfl) (Nat.le_of_ble_eq_true rfl)
              · refine r_aload_n hz dX3_read_116 0 rfl ?_
                refine r_callVi (As := fun _ => []) cl3 hz (fun _ _ h => t_X3_readPrize _ _ _ _ h) cal_X3_readPrize dX3_read_117 wm_3_84 wm_3_86 wm_p_18 rfl rfl (Nat.le_of_ble_eq_true rfl) ⟨(Nat.le_of_ble_eq_true rfl), (Nat.le_of_ble_eq_true rfl)⟩ ⟨(Nat.le_of_ble_eq_true rfl), (Nat.le_of_ble_eq_true rfl)⟩ (fun v18 M17 => ?_)
                refine r_goto (tgt := 144) hz dX3_read_120 rfl ?_
                refine r_istore_n (lv' := [(3, .int v18), (0, .ref x0), (2, .int x2)]) hz dX3_read_144 (by decide) rfl ?_
                refine r_iload_n hz dX3_read_145 0 rfl ?_
                refine r_if_ne (tgt := 157) hz dX3_read_146 rfl ?_ ?_
                · refine r_iinc (v := (x2 + (1 : Int32))) (lv' := [(2, .int (x2 + (1 : Int32))), (3, .int v18), (0, .ref x0)]) hz dX3_read_157 2 rfl rfl (by decide) rfl ?_
                  refine r_goto (tgt := 40) hz dX3_read_160 rfl ?_
                  refine r_sub [2, 0] rfl ?_
                  exact ih x0 (x2 + (1 : Int32)) M17
                · refine r_bipush (v := -2) hz dX3_read_149 rfl ?_
                  refine r_aload_n hz dX3_read_151 1 rfl ?_
                  refine r_getI (j := 8) cl3 hz dX3_read_152 (by decide) wm_1_206 rfl ?_
                  refine r_isub hz dX3_read_155 ?_
                  exact r_iret hz hq dX3_read_156 (Nat.le_of_ble_eq_true rfl) (Nat.le_of_ble_eq_true rfl)
            · refine r_aload_n hz dX3_read_100 0 rfl ?_
              refine r_callVi (As := fun _ => []) cl3 hz (fun _ _ h => t_X3_readHolds _ _ _ _ h) cal_X3_readHolds dX3_read_101 wm_3_57 wm_3_59 wm_p_14 rfl rfl (Nat.le_of_ble_eq_true rfl) ⟨(Nat.le_of_ble_eq_true rfl), (Nat.le_of_ble_eq_true rfl)⟩ ⟨(Nat.le_of_ble_eq_true rfl), (Nat.le_of_ble_eq_true rfl)⟩ (fun v21 M20 => ?_)
              refine r_goto (tgt := 144) hz dX3_read_104 rfl ?_
              refine r_istore_n (lv' := [(3, .int v21), (0, .ref x0), (2, .int x2)]) hz dX3_read_144 (by decide) rfl ?_
              refine r_iload_n hz dX3_read_145 0 rfl ?_
              refine r_if_ne (tgt := 157) hz dX3_read_146 rfl ?_ ?_
              · refine r_iinc (v := (x2 + (1 : Int32))) (lv' := [(2, .int (x2 + (1 : Int32))), (3, .int v21), (0, .ref x0)]) hz dX3_read_157 2 rfl rfl (by decide) rfl ?_
                refine r_goto (tgt := 40) hz dX3_read_160 rfl ?_
                refine r_sub [2, 0] rfl ?_
                exact ih x0 (x2 + (1 : Int32)) M20
              · refine r_bipush (v := -2) hz dX3_read_149 rfl ?_
                refine r_aload_n hz dX3_read_151 1 rfl ?_
                refine r_getI (j := 8) cl3 hz dX3_read_152 (by decide) wm_1_206 rfl ?_
                refine r_isub hz dX3_read_155 ?_
                exact r_iret hz hq dX3_read_156 (Nat.le_of_ble_eq_true rfl) (Nat.le_of_ble_eq_true rfl)
          · refine r_aload_n hz dX3_read_84 0 rfl ?_
            refine r_callVi (As := fun _ => []) cl3 hz (fun _ _ h => t_X3_readHolder _ _ _ _ h) cal_X3_readHolder dX3_read_85 wm_3_53 wm_3_55 wm_p_13 rfl rfl (Nat.le_of_ble_eq_true rfl) ⟨(Nat.le_of_ble_eq_true rfl), (Nat.le_of_ble_eq_true rfl)⟩ ⟨(Nat.le_of_ble_eq_true rfl), (Nat.le_of_ble_eq_true rfl)⟩ (fun v24 M23 => ?_)
            refine r_goto (tgt := 144) hz dX3_read_88 rfl ?_
            refine r_istore_n (lv' := [(3, .int v24), (0, .ref x0), (2, .int x2)]) hz dX3_read_144 (by decide) rfl ?_
            refine r_iload_n hz dX3_read_145 0 rfl ?_
            refine r_if_ne (tgt := 157) hz dX3_read_146 rfl ?_ ?_
            · refine r_iinc (v := (x2 + (1 : Int32))) (lv' := [(2, .int (x2 + (1 : Int32))), (3, .int v24), (0, .ref x0)]) hz dX3_read_157 2 rfl rfl (by decide) rfl ?_
              refine r_goto (tgt := 40) hz dX3_read_160 rfl ?_
              refine r_sub [2, 0] rfl ?_
              exact ih x0 (x2 + (1 : Int32)) M23
            · refine r_bipush (v := -2) hz dX3_read_149 rfl ?_
              refine r_aload_n hz dX3_read_151 1 rfl ?_
              refine r_getI (j := 8) cl3 hz dX3_read_152 (by decide) wm_1_206 rfl ?_
              refine r_isub hz dX3_read_155 ?_
              exact r_iret hz hq dX3_read_156 (Nat.le_of_ble_eq_true rfl) (Nat.le_of_ble_eq_true rfl)
        · refine r_aload_n hz dX3_read_68 0 rfl ?_
          refine r_callVi (As := fun _ => []) cl3 hz (fun _ _ h => t_X3_readLoan _ _ _ _ h) cal_X3_readLoan dX3_read_69 wm_2_231 wm_2_233 wm_p_3 rfl rfl (Nat.le_of_ble_eq_true rfl) ⟨(Nat.le_of_ble_eq_true rfl), (Nat.le_of_ble_eq_true rfl)⟩ ⟨(Nat.le_of_ble_eq_true rfl), (Nat.le_of_ble_eq_true rfl)⟩ (fun v27 M26 => ?_)
          refine r_goto (tgt := 144) hz dX3_read_72 rfl ?_
          refine r_istore_n (lv' := [(3, .int v27), (0, .ref x0), (2, .int x2)]) hz dX3_read_144 (by decide) rfl ?_
          refine r_iload_n hz dX3_read_145 0 rfl ?_
          refine r_if_ne (tgt := 157) hz dX3_read_146 rfl ?_ ?_
          · refine r_iinc (v := (x2 + (1 : Int32))) (lv' := [(2, .int (x2 + (1 : Int32))), (3, .int v27), (0, .ref x0)]) hz dX3_read_157 2 rfl rfl (by decide) rfl ?_
            refine r_goto (tgt := 40) hz dX3_read_160 rfl ?_
            refine r_sub [2, 0] rfl ?_
            exact ih x0 (x2 + (1 : Int32)) M26
          · refine r_bipush (v := -2) hz dX3_read_149 rfl ?_
            refine r_aload_n hz dX3_read_151 1 rfl ?_
            refine r_getI (j := 8) cl3 hz dX3_read_152 (by decide) wm_1_206 rfl ?_
            refine r_isub hz dX3_read_155 ?_
            exact r_iret hz hq dX3_read_156 (Nat.le_of_ble_eq_true rfl) (Nat.le_of_ble_eq_true rfl)
def f_X3_read (p0 : Nat) (p1 : Int32) (M : Mm) : Option (Int32 × Mm) :=
  ck (gK M p0 = 3) (bR (gR M p0 3) fun q1 => ck (gK M q1 = 6) (bd (f_X6_clear q1 M) fun _ M2 =>
  ck (gK M2 p0 = 3) (bd (f_J9_min_7cf53 p1 (gI M2 p0 1) M2) fun v4 M3 =>
  ck (gK M3 p0 = 3) (nm (sI M3 p0 2 v4) fun M5 =>
  ck (gK M5 p0 = 3) (nm (sI M5 p0 1 (0 : Int32)) fun M6 =>
  ck (gK M6 p0 = 3) (nm (sI M6 p0 6 (0 : Int32)) fun M7 =>
  ck (gK M7 p0 = 3) (nm (sI M7 p0 8 (0 : Int32)) fun M8 =>
  ck (gK M8 p0 = 3) (bd (f_X3_advance p0 M8) fun _ M9 =>
  f_X3_read_40 FU p0 (0 : Int32) M9))))))))
set_option maxRecDepth 20000 in
set_option maxHeartbeats 4000000 in
theorem t_X3_read (p0 : Nat) (p1 : Int32) (M : Mm) (x : Int32) (M' : Mm) (h : f_X3_read p0 p1 M = some (x, M')) : Ctr yX3_read cX3_read 4 (some .int) rX3_read (fun _ => [.ref p0, .int p1]) M (zI x) M' := by
  refine ctr_of (plainFor_of_name (by decide)) (fun _ => Nat.le_of_ble_eq_true rfl) (fun z hz hin hq => ?_)
  have key : Sim z 0 [(0, .ref p0), (1, .int p1)] [] M 0 0 (f_X3_read p0 p1 M) (fun a b => a = x ∧ b = M') := by
    have hq : Ret z zI (fun a b => a = x ∧ b = M') := fun a b e => by rw [e.1, e.2]; exact hq
    unfold f_X3_read
    refine r_aload_n hz dX3_read_0 0 rfl ?_
    refine r_getR (j := 3) cl3 hz dX3_read_1 (by decide) wm_1_201 rfl (fun q1 => ?_)
    refine r_callVv (As := fun _ => []) cl6 hz (fun _ _ h => t_X6_clear _ _ _ _ h) cal_X6_clear dX3_read_4 wm_2_157 wm_2_158 wm_2_159 rfl rfl (Nat.le_of_ble_eq_true rfl) ⟨(Nat.le_of_ble_eq_true rfl), (Nat.le_of_ble_eq_true rfl)⟩ ⟨(Nat.le_of_ble_eq_true rfl), (Nat.le_of_ble_eq_true rfl)⟩ (fun _ M2 => ?_)
    refine r_aload_n hz dX3_read_7 0 rfl ?_
    refine r_iload_n hz dX3_read_8 1 rfl ?_
    refine r_aload_n hz dX3_read_9 0 rfl ?_
    refine r_getI (j := 1) cl3 hz dX3_read_10 (by decide) wm_1_198 rfl ?_
    refine r_callSi (As := fun _ => [.int p1, .int (gI M2 p0 1)]) hz (fun _ _ h => t_J9_min_7cf53 _ _ _ _ _ h) cal_J9_min_7cf53 dX3_read_13 wm_2_164 wm_2_165 rfl rfl (Nat.le_of_ble_eq_true rfl) ⟨(Nat.le_of_ble_eq_true rfl), (Nat.le_of_ble_eq_true rfl)⟩ ⟨(Nat.le_of_ble_eq_true rfl), (Nat.le_of_ble_eq_true rfl)⟩ (fun v4 M3 => ?_)
    refine r_putI (j := 2) cl3 hz dX3_read_16 (by decide) wm_1_200 (Or.inl rfl) rfl rfl rfl ?_
    refine r_nmM (fun M5 => ?_)
    refine r_aload_n hz dX3_read_19 0 rfl ?_
    refine r_iconst (v := 0) hz dX3_read_20 rfl ?_
    refine r_putI (j := 1) cl3 hz dX3_read_21 (by decide) wm_1_198 (Or.inl rfl) rfl rfl rfl ?_
    refine r_nmM (fun M6 => ?_)
    refine r_aload_n hz dX3_read_24 0 rfl ?_
    refine r_iconst (v := 0) hz dX3_read_25 rfl ?_
    refine r_putI (j := 6) cl3 hz dX3_read_26 (by decide) wm_1_204 (Or.inl rfl) rfl rfl rfl ?_
    refine r_nmM (fun M7 => ?_)
    refine r_aload_n hz dX3_read_29 0 rfl ?_
    refine r_iconst (v := 0) hz dX3_read_30 rfl ?_
    refine r_putI (j := 8) cl3 hz dX3_read_31 (by decide) wm_1_206 (Or.inl rfl) rfl rfl rfl ?_
    refine r_nmM (fun M8 => ?_)
    refine r_aload_n hz dX3_read_34 0 rfl ?_
    refine r_callVv (As := fun _ => []) cl3 hz (fun _ _ h => t_X3_advance _ _ _ _ h) cal_X3_advance dX3_read_35 wm_2_167 wm_2_169 wm_p_0 rfl rfl (Nat.le_of_ble_eq_true rfl) ⟨(Nat.le_of_ble_eq_true rfl), (Nat.le_of_ble_eq_true rfl)⟩ ⟨(Nat.le_of_ble_eq_true rfl), (Nat.le_of_ble_eq_true rfl)⟩ (fun _ M9 => ?_)
    refine r_iconst (v := 0) hz dX3_read_38 rfl ?_
    refine r_istore_n (lv' := [(2, .int (0 : Int32)), (0, .ref p0), (1, .int p1)]) hz dX3_read_39 (by decide) rfl ?_
    refine r_sub [1, 0] rfl ?_
    exact s_X3_read_40 hz hq FU p0 (0 : Int32) M9
  exact key x M' h ⟨rfl, rfl⟩
theorem dX4_init_0 : decode cX4_init 0 = .ok (.aload_n 0, 1) := by decide +kernel
theorem dX4_init_1 : decode cX4_init 1 = .ok (.invokespecial 3, 3) := by decide +kernel
theorem dX4_init_4 : decode cX4_init 4 = .ok (.aload_n 0, 1) := by decide +kernel
theorem dX4_init_5 : decode cX4_init 5 = .ok (.iconst 0, 1) := by decide +kernel
theorem dX4_init_6 : decode cX4_init 6 = .ok (.putfield 9, 3) := by decide +kernel
theorem dX4_init_9 : decode cX4_init 9 = .ok (.aload_n 0, 1) := by decide +kernel
theorem dX4_init_10 : decode cX4_init 10 = .ok (.iconst 0, 1) := by decide +kernel
theorem dX4_init_11 : decode cX4_init 11 = .ok (.putfield 15, 3) := by decide +kernel
theorem dX4_init_14 : decode cX4_init 14 = .ok (.aload_n 0, 1) := by decide +kernel
theorem dX4_init_15 : decode cX4_init 15 = .ok (.iconst 0, 1) := by decide +kernel
theorem dX4_init_16 : decode cX4_init 16 = .ok (.putfield 18, 3) := by decide +kernel
theorem dX4_init_19 : decode cX4_init 19 = .ok (.aload_n 0, 1) := by decide +kernel
theorem dX4_init_20 : decode cX4_init 20 = .ok (.iconst 0, 1) := by decide +kernel
theorem dX4_init_21 : decode cX4_init 21 = .ok (.putfield 21, 3) := by decide +kernel
theorem dX4_init_24 : decode cX4_init 24 = .ok (.aload_n 0, 1) := by decide +kernel
theorem dX4_init_25 : decode cX4_init 25 = .ok (.iconst 0, 1) := by decide +kernel
theorem dX4_init_26 : decode cX4_init 26 = .ok (.putfield 24, 3) := by decide +kernel
theorem dX4_init_29 : decode cX4_init 29 = .ok (.aload_n 0, 1) := by decide +kernel
theorem dX4_init_30 : decode cX4_init 30 = .ok (.iconst 0, 1) := by decide +kernel
theorem dX4_init_31 : decode cX4_init 31 = .ok (.putfield 27, 3) := by decide +kernel
theorem dX4_init_34 : decode cX4_init 34 = .ok (.aload_n 0, 1) := by decide +kernel
theorem dX4_init_35 : decode cX4_init 35 = .ok (.bipush 21, 2) := by decide +kernel
theorem dX4_init_37 : decode cX4_init 37 = .ok (.newarray .int, 2) := by decide +kernel
theorem dX4_init_39 : decode cX4_init 39 = .ok (.putfield 30, 3) := by decide +kernel
theorem dX4_init_42 : decode cX4_init 42 = .ok (.aload_n 0, 1) := by decide +kernel
theorem dX4_init_43 : decode cX4_init 43 = .ok (.bipush 10, 2) := by decide +kernel
theorem dX4_init_45 : decode cX4_init 45 = .ok (.newarray .int, 2) := by decide +kernel
theorem dX4_init_47 : decode cX4_init 47 = .ok (.putfield 34, 3) := by decide +kernel
theorem dX4_init_50 : decode cX4_init 50 = .ok (.aload_n 0, 1) := by decide +kernel
theorem dX4_init_51 : decode cX4_init 51 = .ok (.iconst 0, 1) := by decide +kernel
theorem dX4_init_52 : decode cX4_init 52 = .ok (.putfield 37, 3) := by decide +kernel
theorem dX4_init_55 : decode cX4_init 55 = .ok (.aload_n 0, 1) := by decide +kernel
theorem dX4_init_56 : decode cX4_init 56 = .ok (.iconst 0, 1) := by decide +kernel
theorem dX4_init_57 : decode cX4_init 57 = .ok (.putfield 40, 3) := by decide +kernel
theorem dX4_init_60 : decode cX4_init 60 = .ok (.aload_n 0, 1) := by decide +kernel
theorem dX4_init_61 : decode cX4_init 61 = .ok (.iconst 0, 1) := by decide +kernel
theorem dX4_init_62 : decode cX4_init 62 = .ok (.putfield 43, 3) := by decide +kernel
theorem dX4_init_65 : decode cX4_init 65 = .ok (.aload_n 0, 1) := by decide +kernel
theorem dX4_init_66 : decode cX4_init 66 = .ok (.bipush 21, 2) := by decide +kernel
theorem dX4_init_68 : decode cX4_init 68 = .ok (.newarray .int, 2) := by decide +kernel
theorem dX4_init_70 : decode cX4_init 70 = .ok (.putfield 46, 3) := by decide +kernel
theorem dX4_init_73 : decode cX4_init 73 = .ok (.aload_n 0, 1) := by decide +kernel
theorem dX4_init_74 : decode cX4_init 74 = .ok (.bipush 21, 2) := by decide +kernel
theorem dX4_init_76 : decode cX4_init 76 = .ok (.newarray .int, 2) := by decide +kernel
theorem dX4_init_78 : decode cX4_init 78 = .ok (.putfield 49, 3) := by decide +kernel
theorem dX4_init_81 : decode cX4_init 81 = .ok (.aload_n 0, 1) := by decide +kernel
theorem dX4_init_82 : decode cX4_init 82 = .ok (.bipush 21, 2) := by decide +kernel
theorem dX4_init_84 : decode cX4_init 84 = .ok (.newarray .int, 2) := by decide +kernel
theorem dX4_init_86 : decode cX4_init 86 = .ok (.putfield 52, 3) := by decide +kernel
theorem dX4_init_89 : decode cX4_init 89 = .ok (.aload_n 0, 1) := by decide +kernel
theorem dX4_init_90 : decode cX4_init 90 = .ok (.bipush 21, 2) := by decide +kernel
theorem dX4_init_92 : decode cX4_init 92 = .ok (.newarray .int, 2) := by decide +kernel
theorem dX4_init_94 : decode cX4_init 94 = .ok (.putfield 55, 3) := by decide +kernel
theorem dX4_init_97 : decode cX4_init 97 = .ok (.aload_n 0, 1) := by decide +kernel
theorem dX4_init_98 : decode cX4_init 98 = .ok (.bipush 21, 2) := by decide +kernel
theorem dX4_init_100 : decode cX4_init 100 = .ok (.newarray .int, 2) := by decide +kernel
theorem dX4_init_102 : decode cX4_init 102 = .ok (.putfield 58, 3) := by decide +kernel
theorem dX4_init_105 : decode cX4_init 105 = .ok (.aload_n 0, 1) := by decide +kernel
theorem dX4_init_106 : decode cX4_init 106 = .ok (.bipush 21, 2) := by decide +kernel
theorem dX4_init_108 : decode cX4_init 108 = .ok (.newarray .int, 2) := by decide +kernel
theorem dX4_init_110 : decode cX4_init 110 = .ok (.putfield 61, 3) := by decide +kernel
theorem dX4_init_113 : decode cX4_init 113 = .ok (.return_, 1) := by decide +kernel
abbrev rX4_init : Room := { frames := 1, cells := 8, slots := 157, locals := 20 }
theorem cal_X4_init : CalOk yX4_init cX4_init 1 none 0 := ⟨wm_1_231, wm_1_5, by decide, by decide, by decide +kernel⟩
def f_X4_init (p0 : Nat) (M : Mm) : Option (Unit × Mm) :=
  ck (gK M p0 = 4) (nm (sI M p0 0 (0 : Int32)) fun M1 =>
  ck (gK M1 p0 = 4) (nm (sI M1 p0 1 (0 : Int32)) fun M2 =>
  ck (gK M2 p0 = 4) (nm (sI M2 p0 2 (0 : Int32)) fun M3 =>
  ck (gK M3 p0 = 4) (nm (sI M3 p0 3 (0 : Int32)) fun M4 =>
  ck (gK M4 p0 = 4) (nm (sI M4 p0 4 (0 : Int32)) fun M5 =>
  ck (gK M5 p0 = 4) (nm (sI M5 p0 5 (0 : Int32)) fun M6 =>
  nm (gT M6) fun q7 => nm (sN M6 10 21) fun M8 =>
  ck (gK M8 p0 = 4) (nm (sR M8 p0 6 (some q7)) fun M9 =>
  nm (gT M9) fun q10 => nm (sN M9 10 10) fun M11 =>
  ck (gK M11 p0 = 4) (nm (sR M11 p0 7 (some q10)) fun M12 =>
  ck (gK M12 p0 = 4) (nm (sI M12 p0 8 (0 : Int32)) fun M13 =>
  ck (gK M13 p0 = 4) (nm (sI M13 p0 9 (0 : Int32)) fun M14 =>
  ck (gK M14 p0 = 4) (nm (sI M14 p0 10 (0 : Int32)) fun M15 =>
  nm (gT M15) fun q16 => nm (sN M15 10 21) fun M17 =>
  ck (gK M17 p0 = 4) (nm (sR M17 p0 11 (some q16)) fun M18 =>
  nm (gT M18) fun q19 => nm (sN M18 10 21) fun M20 =>
  ck (gK M20 p0 = 4) (nm (sR M20 p0 12 (some q19)) fun M21 =>
  nm (gT M21) fun q22 => nm (sN M21 10 21) fun M23 =>
  ck (gK M23 p0 = 4) (nm (sR M23 p0 13 (some q22)) fun M24 =>
  nm (gT M24) fun q25 => nm (sN M24 10 21) fun M26 =>
  ck (gK M26 p0 = 4) (nm (sR M26 p0 14 (some q25)) fun M27 =>
  nm (gT M27) fun q28 => nm (sN M27 10 21) fun M29 =>
  ck (gK M29 p0 = 4) (nm (sR M29 p0 15 (some q28)) fun M30 =>
  nm (gT M30) fun q31 => nm (sN M30 10 21) fun M32 =>
  ck (gK M32 p0 = 4) (nm (sR M32 p0 16 (some q31)) fun M33 =>
  some ((), M33))))))))))))))))))
set_option maxRecDepth 20000 in
set_option maxHeartbeats 4000000 in
theorem t_X4_init (p0 : Nat) (M : Mm) (x : Unit) (M' : Mm) (h : f_X4_init p0 M = some (x, M')) : Ctr yX4_init cX4_init 1 none rX4_init (fun _ => [.ref p0]) M (zU x) M' := by
  refine ctr_of (plainFor_of_name (by decide)) (fun _ => Nat.le_of_ble_eq_true rfl) (fun z hz hin hq => ?_)
  have key : Sim z 0 [(0, .ref p0)] [] M 0 0 (f_X4_init p0 M) (fun a b => a = x ∧ b = M') := by
    have hq : Ret z zU (fun a b => a = x ∧ b = M') := fun a b e => by rw [e.1, e.2]; exact hq
    have hin := hin rfl
    unfold f_X4_init
    refine r_aload_n hz dX4_init_0 0 rfl ?_
    refine r_objInit hz dX4_init_1 wm_1_232 wm_1_27 wm_1_28 (Nat.le_of_ble_eq_true rfl) (Nat.le_of_ble_eq_true rfl) ?_
    refine r_aload_n hz dX4_init_4 0 rfl ?_
    refine r_iconst (v := 0) hz dX4_init_5 rfl ?_
    refine r_putI (j := 0) cl4 hz dX4_init_6 (by decide) wm_1_233 (Or.inl rfl) rfl rfl rfl ?_
    refine r_nmM (fun M1 => ?_)
    refine r_aload_n hz dX4_init_9 0 rfl ?_
    refine r_iconst (v := 0) hz dX4_init_10 rfl ?_
    refine r_putI (j := 1) cl4 hz dX4_init_11 (by decide) wm_1_234 (Or.inl rfl) rfl rfl rfl ?_
    refine r_nmM (fun M2 => ?_)
    refine r_aload_n hz dX4_init_14 0 rfl ?_
    refine r_iconst (v := 0) hz dX4_init_15 rfl ?_
    refine r_putI (j := 2) cl4 hz dX4_init_16 (by decide) wm_1_235 (Or.inl rfl) rfl rfl rfl ?_
    refine r_nmM (fun M3 => ?_)
    refine r_aload_n hz dX4_init_19 0 rfl ?_
    refine r_iconst (v := 0) hz dX4_init_20 rfl ?_
    refine r_putI (j := 3) cl4 hz dX4_init_21 (by decide) wm_1_236 (Or.inl rfl) rfl rfl rfl ?_
    refine r_nmM (fun M4 => ?_)
    refine r_aload_n hz dX4_init_24 0 rfl ?_
    refine r_iconst (v := 0) hz dX4_init_25 rfl ?_
    refine r_putI (j := 4) cl4 hz dX4_init_26 (by decide) wm_1_237 (Or.inl rfl) rfl rfl rfl ?_
    refine r_nmM (fun M5 => ?_)
    refine r_aload_n hz dX4_init_29 0 rfl ?_
    refine r_iconst (v := 0) hz dX4_init_30 rfl ?_
    refine r_putI (j := 5) cl4 hz dX4_init_31 (by decide) wm_1_238 (Or.inl rfl) rfl rfl rfl ?_
    refine r_nmM (fun M6 => ?_)
    refine r_aload_n hz dX4_init_34 0 rfl ?_
    refine r_bipush (v := 21) hz dX4_init_35 rfl ?_
    refine r_newI (len := 21) hz dX4_init_37 wm_1_133 rfl (by decide) (Nat.le_of_ble_eq_true rfl) (Nat.le_of_ble_eq_true rfl) (Nat.le_of_ble_eq_true rfl) ?_
    refine r_nma (fun q7 => ?_)
    refine r_nmM (fun M8 => ?_)
    refine r_putR (j := 6) cl4 hz dX4_init_39 (by decide) wm_1_239 (Or.inr ⟨rfl, hin⟩) rfl rfl rfl ?_
    refine r_nmM (fun M9 => ?_)
    refine r_aload_n hz dX4_init_42 0 rfl ?_
    refine r_bipush (v := 10) hz dX4_init_43 rfl ?_
    refine r_newI (len := 10) hz dX4_init_45 wm_1_133 rfl (by decide) (Nat.le_of_ble_eq_true rfl) (Nat.le_of_ble_eq_true rfl) (Nat.le_of_ble_eq_true rfl) ?_
    refine r_nma (fun q10 => ?_)
    refine r_nmM (fun M11 => ?_)
    refine r_putR (j := 7) cl4 hz dX4_init_47 (by decide) wm_2_0 (Or.inr ⟨rfl, hin⟩) rfl rfl rfl ?_
    refine r_nmM (fun M12 => ?_)
    refine r_aload_n hz dX4_init_50 0 rfl ?_
    refine r_iconst (v := 0) hz dX4_init_51 rfl ?_
    refine r_putI (j := 8) cl4 hz dX4_init_52 (by decide) wm_2_1 (Or.inl rfl) rfl rfl rfl ?_
    refine r_nmM (fun M13 => ?_)
    refine r_aload_n hz dX4_init_55 0 rfl ?_
    refine r_iconst (v := 0) hz dX4_init_56 rfl ?_
    refine r_putI (j := 9) cl4 hz dX4_init_57 (by decide) wm_2_4 (Or.inl rfl) rfl rfl rfl ?_
    refine r_nmM (fun M14 => ?_)
    refine r_aload_n hz dX4_init_60 0 rfl ?_
    refine r_iconst (v := 0) hz dX4_init_61 rfl ?_
    refine r_putI (j := 10) cl4 hz dX4_init_62 (by decide) wm_2_7 (Or.inl rfl) rfl rfl rfl ?_
    refine r_nmM (fun M15 => ?_)
    refine r_aload_n hz dX4_init_65 0 rfl ?_
    refine r_bipush (v := 21) hz dX4_init_66 rfl ?_
    refine r_newI (len := 21) hz dX4_init_68 wm_1_133 rfl (by decide) (Nat.le_of_ble_eq_true rfl) (Nat.le_of_ble_eq_true rfl) (Nat.le_of_ble_eq_true rfl) ?_
    refine r_nma (fun q16 => ?_)
    refine r_nmM (fun M17 => ?_)
    refine r_putR (j := 11) cl4 hz dX4_init_70 (by decide) wm_2_10 (Or.inr ⟨rfl, hin⟩) rfl rfl rfl ?_
    refine r_nmM (fun M18 => ?_)
    refine r_aload_n hz dX4_init_73 0 rfl ?_
    refine r_bipush (v := 21) hz dX4_init_74 rfl ?_
    refine r_newI (len := 21) hz dX4_init_76 wm_1_133 rfl (by decide) (Nat.le_of_ble_eq_true rfl) (Nat.le_of_ble_eq_true rfl) (Nat.le_of_ble_eq_true rfl) ?_
    refine r_nma (fun q19 => ?_)
    refine r_nmM (fun M20 => ?_)
    refine r_putR (j := 12) cl4 hz dX4_init_78 (by decide) wm_2_12 (Or.inr ⟨rfl, hin⟩) rfl rfl rfl ?_
    refine r_nmM (fun M21 => ?_)
    refine r_aload_n hz dX4_init_81 0 rfl ?_
    refine r_bipush (v := 21) hz dX4_init_82 rfl ?_
    refine r_newI (len := 21) hz dX4_init_84 wm_1_133 rfl (by decide) (Nat.le_of_ble_eq_true rfl) (Nat.le_of_ble_eq_true rfl) (Nat.le_of_ble_eq_true rfl) ?_
    refine r_nma (fun q22 => ?_)
    refine r_nmM (fun M23 => ?_)
    refine r_putR (j := 13) cl4 hz dX4_init_86 (by decide) wm_2_14 (Or.inr ⟨rfl, hin⟩) rfl rfl rfl ?_
    refine r_nmM (fun M24 => ?_)
    refine r_aload_n hz dX4_init_89 0 rfl ?_
    refine r_bipush (v := 21) hz dX4_init_90 rfl ?_
    refine r_newI (len := 21) hz dX4_init_92 wm_1_133 rfl (by decide) (Nat.le_of_ble_eq_true rfl) (Nat.le_of_ble_eq_true rfl) (Nat.le_of_ble_eq_true rfl) ?_
    refine r_nma (fun q25 => ?_)
    refine r_nmM (fun M26 => ?_)
    refine r_putR (j := 14) cl4 hz dX4_init_94 (by decide) wm_2_16 (Or.inr ⟨rfl, hin⟩) rfl rfl rfl ?_
    refine r_nmM (fun M27 => ?_)
    refine r_aload_n hz dX4_init_97 0 rfl ?_
    refine r_bipush (v := 21) hz dX4_init_98 rfl ?_
    refine r_newI (len := 21) hz dX4_init_100 wm_1_133 rfl (by decide) (Nat.le_of_ble_eq_true rfl) (Nat.le_of_ble_eq_true rfl) (Nat.le_of_ble_eq_true rfl) ?_
    refine r_nma (fun q28 => ?_)
    refine r_nmM (fun M29 => ?_)
    refine r_putR (j := 15) cl4 hz dX4_init_102 (by decide) wm_2_18 (Or.inr ⟨rfl, hin⟩) rfl rfl rfl ?_
    refine r_nmM (fun M30 => ?_)
    refine r_aload_n hz dX4_init_105 0 rfl ?_
    refine r_bipush (v := 21) hz dX4_init_106 rfl ?_
    refine r_newI (len := 21) hz dX4_init_108 wm_1_133 rfl (by decide) (Nat.le_of_ble_eq_true rfl) (Nat.le_of_ble_eq_true rfl) (Nat.le_of_ble_eq_true rfl) ?_
    refine r_nma (fun q31 => ?_)
    refine r_nmM (fun M32 => ?_)
    refine r_putR (j := 16) cl4 hz dX4_init_110 (by decide) wm_2_20 (Or.inr ⟨rfl, hin⟩) rfl rfl rfl ?_
    refine r_nmM (fun M33 => ?_)
    exact r_vret hz hq dX4_init_113 (Nat.le_of_ble_eq_true rfl) (Nat.le_of_ble_eq_true rfl)
  exact key x M' h ⟨rfl, rfl⟩
theorem dX5_countBonds_0 : decode cX5_countBonds 0 = .ok (.iconst 0, 1) := by decide +kernel
theorem dX5_countBonds_1 : decode cX5_countBonds 1 = .ok (.istore 4, 2) := by decide +kernel
theorem dX5_countBonds_3 : decode cX5_countBonds 3 = .ok (.iconst 1, 1) := by decide +kernel
theorem dX5_countBonds_4 : decode cX5_countBonds 4 = .ok (.istore 5, 2) := by decide +kernel
theorem dX5_countBonds_6 : decode cX5_countBonds 6 = .ok (.iload 5, 2) := by decide +kernel
theorem dX5_countBonds_8 : decode cX5_countBonds 8 = .ok (.aload_n 1, 1) := by decide +kernel
theorem dX5_countBonds_9 : decode cX5_countBonds 9 = .ok (.getfield 83, 3) := by decide +kernel
theorem dX5_countBonds_12 : decode cX5_countBonds 12 = .ok (.iload_n 2, 1) := by decide +kernel
theorem dX5_countBonds_13 : decode cX5_countBonds 13 = .ok (.iaload, 1) := by decide +kernel
theorem dX5_countBonds_14 : decode cX5_countBonds 14 = .ok (.if_icmp .gt 27, 3) := by decide +kernel
theorem dX5_countBonds_17 : decode cX5_countBonds 17 = .ok (.aload_n 0, 1) := by decide +kernel
theorem dX5_countBonds_18 : decode cX5_countBonds 18 = .ok (.getfield 31, 3) := by decide +kernel
theorem dX5_countBonds_21 : decode cX5_countBonds 21 = .ok (.iload_n 2, 1) := by decide +kernel
theorem dX5_countBonds_22 : decode cX5_countBonds 22 = .ok (.iload 5, 2) := by decide +kernel
theorem dX5_countBonds_24 : decode cX5_countBonds 24 = .ok (.invokestatic 86, 3) := by decide +kernel
theorem dX5_countBonds_27 : decode cX5_countBonds 27 = .ok (.iaload, 1) := by decide +kernel
theorem dX5_countBonds_28 : decode cX5_countBonds 28 = .ok (.iload_n 3, 1) := by decide +kernel
theorem dX5_countBonds_29 : decode cX5_countBonds 29 = .ok (.if_icmp .ne 6, 3) := by decide +kernel
theorem dX5_countBonds_32 : decode cX5_countBonds 32 = .ok (.iinc 4 1, 3) := by decide +kernel
theorem dX5_countBonds_35 : decode cX5_countBonds 35 = .ok (.iinc 5 1, 3) := by decide +kernel
theorem dX5_countBonds_38 : decode cX5_countBonds 38 = .ok (.goto (-32), 3) := by decide +kernel
theorem dX5_countBonds_41 : decode cX5_countBonds 41 = .ok (.iload 4, 2) := by decide +kernel
theorem dX5_countBonds_43 : decode cX5_countBonds 43 = .ok (.ireturn, 1) := by decide +kernel
abbrev rX5_countBonds : Room := { frames := 1, cells := 0, slots := 0, locals := 21 }
theorem cal_X5_countBonds : CalOk yX5_countBonds cX5_countBonds 6 (some .int) 3 := ⟨wm_3_135, wm_1_3, by decide, by decide, by decide +kernel⟩
def f_X5_countBonds_6 : Nat → Nat → Nat → Int32 → Int32 → Int32 → Int32 → Mm → Option (Int32 × Mm)
  | 0, _, _, _, _, _, _, _ => none
  | n + 1, x0, x1, x2, x3, x4, x5, M =>
    ck (gK M x1 = 6) (bR (gR M x1 6) fun q1 => ck (gK M q1 = 10 ∧ inb x2 (gN M q1)) ((if (gI M q1 (x2).toNatClampNeg) < x5 then
      some (x4, M)
    else
      ck (gK M x0 = 5) (bR (gR M x0 6) fun q2 => bd (f_X7_spotOf x2 x5 M) fun v4 M3 =>
      ck (gK M3 q2 = 10 ∧ inb v4 (gN M3 q2)) ((if ¬ (gI M3 q2 (v4).toNatClampNeg) = x3 then
        f_X5_countBonds_6 n x0 x1 x2 x3 x4 (x5 + (1 : Int32)) M3
      else
        f_X5_countBonds_6 n x0 x1 x2 x3 (x4 + (1 : Int32)) (x5 + (1 : Int32)) M3))))))
set_option maxRecDepth 20000 in
set_option maxHeartbeats 4000000 in
theorem s_X5_countBonds_6 {z : Zt} {K : Int32 → Mm → Prop} (hz : Good z RX5 cX5_countBonds 6 rX5_countBonds (some .int)) (hq : Ret z zI K) : ∀ (n : Nat) (x0 : Nat) (x1 : Nat) (x2 : Int32) (x3 : Int32) (x4 : Int32) (x5 : Int32) (M : Mm), Sim z 6 [(0, .ref x0), (1, .ref x1), (2, .int x2), (3, .int x3), (4, .int x4), (5, .int x5)] [] M 0 0 (f_X5_countBonds_6 n x0 x1 x2 x3 x4 x5 M) K := by
  intro n
  induction n with
  | zero => exact fun _ _ _ _ _ _ _ => r_none
  | succ n ih =>
    intro x0 x1 x2 x3 x4 x5 M
    unfold f_X5_countBonds_6
    refine r_iload hz dX5_countBonds_6 5 rfl ?_
    refine r_aload_n hz dX5_countBonds_8 1 rfl ?_
    refine r_getR (j := 6) cl6 hz dX5_countBonds_9 (by decide) wm_1_56 rfl (fun q1 => ?_)
    refine r_iload_n hz dX5_countBonds_12 2 rfl ?_
    refine r_iald hz dX5_countBonds_13 ?_
    refine r_icmp_gt (tgt := 41) hz dX5_countBonds_14 rfl ?_ ?_
    · refine r_iload hz dX5_countBonds_41 4 rfl ?_
      exact r_iret hz hq dX5_countBonds_43 (Nat.le_of_ble_eq_true rfl) (Nat.le_of_ble_eq_true rfl)
    · refine r_aload_n hz dX5_countBonds_17 0 rfl ?_
      refine r_getR (j := 6) cl5 hz dX5_countBonds_18 (by decide) wm_1_155 rfl (fun q2 => ?_)
      refine r_iload_n hz dX5_countBonds_21 2 rfl ?_
      refine r_iload hz dX5_countBonds_22 5 rfl ?_
      refine r_callSNi (As := fun _ => [.int x2, .int x5]) (host := "DrawnBonds") hz (fun _ _ h => t_X7_spotOf _ _ _ _ _ h) cal_X7_spotOf dX5_countBonds_24 (List.mem_of_getElem? (i := 11) rfl) wm_3_78 rfl rfl (Nat.le_of_ble_eq_true rfl) ⟨(Nat.le_of_ble_eq_true rfl), (Nat.le_of_ble_eq_true rfl)⟩ ⟨(Nat.le_of_ble_eq_true rfl), (Nat.le_of_ble_eq_true rfl)⟩ (fun v4 M3 => ?_)
      refine r_iald hz dX5_countBonds_27 ?_
      refine r_iload_n hz dX5_countBonds_28 3 rfl ?_
      refine r_icmp_ne (tgt := 35) hz dX5_countBonds_29 rfl ?_ ?_
      · refine r_iinc (v := (x5 + (1 : Int32))) (lv' := [(5, .int (x5 + (1 : Int32))), (0, .ref x0), (1, .ref x1), (2, .int x2), (3, .int x3), (4, .int x4)]) hz dX5_countBonds_35 5 rfl rfl (by decide) rfl ?_
        refine r_goto (tgt := 6) hz dX5_countBonds_38 rfl ?_
        refine r_sub [1, 2, 3, 4, 5, 0] rfl ?_
        exact ih x0 x1 x2 x3 x4 (x5 + (1 : Int32)) M3
      · refine r_iinc (v := (x4 + (1 : Int32))) (lv' := [(4, .int (x4 + (1 : Int32))), (0, .ref x0), (1, .ref x1), (2, .int x2), (3, .int x3), (5, .int x5)]) hz dX5_countBonds_32 4 rfl rfl (by decide) rfl ?_
        refine r_iinc (v := (x5 + (1 : Int32))) (lv' := [(5, .int (x5 + (1 : Int32))), (4, .int (x4 + (1 : Int32))), (0, .ref x0), (1, .ref x1), (2, .int x2), (3, .int x3)]) hz dX5_countBonds_35 5 rfl rfl (by decide) rfl ?_
        refine r_goto (tgt := 6) hz dX5_countBonds_38 rfl ?_
        refine r_sub [2, 3, 4, 5, 1, 0] rfl ?_
        exact ih x0 x1 x2 x3 (x4 + (1 : Int32)) (x5 + (1 : Int32)) M3
def f_X5_countBonds (p0 : Nat) (p1 : Nat) (p2 : Int32) (p3 : Int32) (M : Mm) : Option (Int32 × Mm) :=
  f_X5_countBonds_6 FU p0 p1 p2 p3 (0 : Int32) (1 : Int32) M
set_option maxRecDepth 20000 in
set_option maxHeartbeats 4000000 in
theorem t_X5_countBonds (p0 : Nat) (p1 : Nat) (p2 : Int32) (p3 : Int32) (M : Mm) (x : Int32) (M' : Mm) (h : f_X5_countBonds p0 p1 p2 p3 M = some (x, M')) : Ctr yX5_countBonds cX5_countBonds 6 (some .int) rX5_countBonds (fun _ => [.ref p0, .ref p1, .int p2, .int p3]) M (zI x) M' := by
  refine ctr_of (plainFor_of_name (by decide)) (fun _ => Nat.le_of_ble_eq_true rfl) (fun z hz hin hq => ?_)
  have key : Sim z 0 [(0, .ref p0), (1, .ref p1), (2, .int p2), (3, .int p3)] [] M 0 0 (f_X5_countBonds p0 p1 p2 p3 M) (fun a b => a = x ∧ b = M') := by
    have hq : Ret z zI (fun a b => a = x ∧ b = M') := fun a b e => by rw [e.1, e.2]; exact hq
    unfold f_X5_countBonds
    refine r_iconst (v := 0) hz dX5_countBonds_0 rfl ?_
    refine r_istore (lv' := [(4, .int (0 : Int32)), (0, .ref p0), (1, .ref p1), (2, .int p2), (3, .int p3)]) hz dX5_countBonds_1 (by decide) rfl ?_
    refine r_iconst (v := 1) hz dX5_countBonds_3 rfl ?_
    refine r_istore (lv' := [(5, .int (1 : Int32)), (4, .int (0 : Int32)), (0, .ref p0), (1, .ref p1), (2, .int p2), (3, .int p3)]) hz dX5_countBonds_4 (by decide) rfl ?_
    refine r_sub [2, 3, 4, 5, 1, 0] rfl ?_
    exact s_X5_countBonds_6 hz hq FU p0 p1 p2 p3 (0 : Int32) (1 : Int32) M
  exact key x M' h ⟨rfl, rfl⟩
theorem dX4_open_0 : decode cX4_open 0 = .ok (.aload_n 0, 1) := by decide +kernel
theorem dX4_open_1 : decode cX4_open 1 = .ok (.aload_n 1, 1) := by decide +kernel
theorem dX4_open_2 : decode cX4_open 2 = .ok (.getfield 72, 3) := by decide +kernel
theorem dX4_open_5 : decode cX4_open 5 = .ok (.iload_n 3, 1) := by decide +kernel
theorem dX4_open_6 : decode cX4_open 6 = .ok (.iaload, 1) := by decide +kernel
theorem dX4_open_7 : decode cX4_open 7 = .ok (.putfield 9, 3) := by decide +kernel
theorem dX4_open_10 : decode cX4_open 10 = .ok (.aload_n 0, 1) := by decide +kernel
theorem dX4_open_11 : decode cX4_open 11 = .ok (.aload_n 1, 1) := by decide +kernel
theorem dX4_open_12 : decode cX4_open 12 = .ok (.getfield 76, 3) := by decide +kernel
theorem dX4_open_15 : decode cX4_open 15 = .ok (.iload_n 3, 1) := by decide +kernel
theorem dX4_open_16 : decode cX4_open 16 = .ok (.iaload, 1) := by decide +kernel
theorem dX4_open_17 : decode cX4_open 17 = .ok (.putfield 15, 3) := by decide +kernel
theorem dX4_open_20 : decode cX4_open 20 = .ok (.aload_n 0, 1) := by decide +kernel
theorem dX4_open_21 : decode cX4_open 21 = .ok (.aload_n 1, 1) := by decide +kernel
theorem dX4_open_22 : decode cX4_open 22 = .ok (.getfield 78, 3) := by decide +kernel
theorem dX4_open_25 : decode cX4_open 25 = .ok (.iload_n 3, 1) := by decide +kernel
theorem dX4_open_26 : decode cX4_open 26 = .ok (.iaload, 1) := by decide +kernel
theorem dX4_open_27 : decode cX4_open 27 = .ok (.putfield 18, 3) := by decide +kernel
theorem dX4_open_30 : decode cX4_open 30 = .ok (.aload_n 0, 1) := by decide +kernel
theorem dX4_open_31 : decode cX4_open 31 = .ok (.aload_n 1, 1) := by decide +kernel
theorem dX4_open_32 : decode cX4_open 32 = .ok (.getfield 80, 3) := by decide +kernel
theorem dX4_open_35 : decode cX4_open 35 = .ok (.iload_n 3, 1) := by decide +kernel
theorem dX4_open_36 : decode cX4_open 36 = .ok (.iaload, 1) := by decide +kernel
theorem dX4_open_37 : decode cX4_open 37 = .ok (.putfield 21, 3) := by decide +kernel
theorem dX4_open_40 : decode cX4_open 40 = .ok (.aload_n 0, 1) := by decide +kernel
theorem dX4_open_41 : decode cX4_open 41 = .ok (.aload_n 1, 1) := by decide +kernel
theorem dX4_open_42 : decode cX4_open 42 = .ok (.getfield 82, 3) := by decide +kernel
theorem dX4_open_45 : decode cX4_open 45 = .ok (.iload_n 3, 1) := by decide +kernel
theorem dX4_open_46 : decode cX4_open 46 = .ok (.iaload, 1) := by decide +kernel
theorem dX4_open_47 : decode cX4_open 47 = .ok (.putfield 24, 3) := by decide +kernel
theorem dX4_open_50 : decode cX4_open 50 = .ok (.aload_n 0, 1) := by decide +kernel
theorem dX4_open_51 : decode cX4_open 51 = .ok (.aload_n 2, 1) := by decide +kernel
theorem dX4_open_52 : decode cX4_open 52 = .ok (.getfield 84, 3) := by decide +kernel
theorem dX4_open_55 : decode cX4_open 55 = .ok (.iload_n 3, 1) := by decide +kernel
theorem dX4_open_56 : decode cX4_open 56 = .ok (.iaload, 1) := by decide +kernel
theorem dX4_open_57 : decode cX4_open 57 = .ok (.putfield 27, 3) := by decide +kernel
theorem dX4_open_60 : decode cX4_open 60 = .ok (.aload_n 0, 1) := by decide +kernel
theorem dX4_open_61 : decode cX4_open 61 = .ok (.aload_n 2, 1) := by decide +kernel
theorem dX4_open_62 : decode cX4_open 62 = .ok (.getfield 87, 3) := by decide +kernel
theorem dX4_open_65 : decode cX4_open 65 = .ok (.iconst 1, 1) := by decide +kernel
theorem dX4_open_66 : decode cX4_open 66 = .ok (.iadd, 1) := by decide +kernel
theorem dX4_open_67 : decode cX4_open 67 = .ok (.putfield 37, 3) := by decide +kernel
theorem dX4_open_70 : decode cX4_open 70 = .ok (.aload_n 0, 1) := by decide +kernel
theorem dX4_open_71 : decode cX4_open 71 = .ok (.aload_n 1, 1) := by decide +kernel
theorem dX4_open_72 : decode cX4_open 72 = .ok (.getfield 90, 3) := by decide +kernel
theorem dX4_open_75 : decode cX4_open 75 = .ok (.iload_n 3, 1) := by decide +kernel
theorem dX4_open_76 : decode cX4_open 76 = .ok (.iaload, 1) := by decide +kernel
theorem dX4_open_77 : decode cX4_open 77 = .ok (.putfield 40, 3) := by decide +kernel
theorem dX4_open_80 : decode cX4_open 80 = .ok (.aload_n 0, 1) := by decide +kernel
theorem dX4_open_81 : decode cX4_open 81 = .ok (.aload_n 2, 1) := by decide +kernel
theorem dX4_open_82 : decode cX4_open 82 = .ok (.aload_n 1, 1) := by decide +kernel
theorem dX4_open_83 : decode cX4_open 83 = .ok (.iload_n 3, 1) := by decide +kernel
theorem dX4_open_84 : decode cX4_open 84 = .ok (.iconst 0, 1) := by decide +kernel
theorem dX4_open_85 : decode cX4_open 85 = .ok (.invokevirtual 93, 3) := by decide +kernel
theorem dX4_open_88 : decode cX4_open 88 = .ok (.putfield 43, 3) := by decide +kernel
theorem dX4_open_91 : decode cX4_open 91 = .ok (.aload_n 2, 1) := by decide +kernel
theorem dX4_open_92 : decode cX4_open 92 = .ok (.getfield 97, 3) := by decide +kernel
theorem dX4_open_95 : decode cX4_open 95 = .ok (.iload_n 3, 1) := by decide +kernel
theorem dX4_open_96 : decode cX4_open 96 = .ok (.iconst 0, 1) := by decide +kernel
theorem dX4_open_97 : decode cX4_open 97 = .ok (.invokestatic 98, 3) := by decide +kernel
theorem dX4_open_100 : decode cX4_open 100 = .ok (.aload_n 0, 1) := by decide +kernel
theorem dX4_open_101 : decode cX4_open 101 = .ok (.getfield 30, 3) := by decide +kernel
theorem dX4_open_104 : decode cX4_open 104 = .ok (.iconst 0, 1) := by decide +kernel
theorem dX4_open_105 : decode cX4_open 105 = .ok (.aload_n 0, 1) := by decide +kernel
theorem dX4_open_106 : decode cX4_open 106 = .ok (.getfield 30, 3) := by decide +kernel
theorem dX4_open_109 : decode cX4_open 109 = .ok (.arraylength, 1) := by decide +kernel
theorem dX4_open_110 : decode cX4_open 110 = .ok (.invokestatic 102, 3) := by decide +kernel
theorem dX4_open_113 : decode cX4_open 113 = .ok (.aload_n 1, 1) := by decide +kernel
theorem dX4_open_114 : decode cX4_open 114 = .ok (.getfield 108, 3) := by decide +kernel
theorem dX4_open_117 : decode cX4_open 117 = .ok (.iload_n 3, 1) := by decide +kernel
theorem dX4_open_118 : decode cX4_open 118 = .ok (.iconst 0, 1) := by decide +kernel
theorem dX4_open_119 : decode cX4_open 119 = .ok (.invokestatic 109, 3) := by decide +kernel
theorem dX4_open_122 : decode cX4_open 122 = .ok (.aload_n 0, 1) := by decide +kernel
theorem dX4_open_123 : decode cX4_open 123 = .ok (.getfield 34, 3) := by decide +kernel
theorem dX4_open_126 : decode cX4_open 126 = .ok (.iconst 0, 1) := by decide +kernel
theorem dX4_open_127 : decode cX4_open 127 = .ok (.aload_n 0, 1) := by decide +kernel
theorem dX4_open_128 : decode cX4_open 128 = .ok (.getfield 34, 3) := by decide +kernel
theorem dX4_open_131 : decode cX4_open 131 = .ok (.arraylength, 1) := by decide +kernel
theorem dX4_open_132 : decode cX4_open 132 = .ok (.invokestatic 102, 3) := by decide +kernel
theorem dX4_open_135 : decode cX4_open 135 = .ok (.return_, 1) := by decide +kernel
abbrev rX4_open : Room := { frames := 2, cells := 0, slots := 0, locals := 46 }
theorem cal_X4_open : CalOk yX4_open cX4_open 4 none 3 := ⟨wm_3_215, wm_1_5, by decide, by decide, by decide +kernel⟩
def f_X4_open (p0 : Nat) (p1 : Nat) (p2 : Nat) (p3 : Int32) (M : Mm) : Option (Unit × Mm) :=
  ck (gK M p1 = 6) (bR (gR M p1 6) fun q1 => ck (gK M q1 = 10 ∧ inb p3 (gN M q1)) (ck (gK M p0 = 4) (nm (sI M p0 0 (gI M q1 (p3).toNatClampNeg)) fun M2 =>
  ck (gK M2 p1 = 6) (bR (gR M2 p1 7) fun q3 => ck (gK M2 q3 = 10 ∧ inb p3 (gN M2 q3)) (ck (gK M2 p0 = 4) (nm (sI M2 p0 1 (gI M2 q3 (p3).toNatClampNeg)) fun M4 =>
  ck (gK M4 p1 = 6) (bR (gR M4 p1 8) fun q5 => ck (gK M4 q5 = 10 ∧ inb p3 (gN M4 q5)) (ck (gK M4 p0 = 4) (nm (sI M4 p0 2 (gI M4 q5 (p3).toNatClampNeg)) fun M6 =>
  ck (gK M6 p1 = 6) (bR (gR M6 p1 10) fun q7 => ck (gK M6 q7 = 10 ∧ inb p3 (gN M6 q7)) (ck (gK M6 p0 = 4) (nm (sI M6 p0 3 (gI M6 q7 (p3).toNatClampNeg)) fun M8 =>
  ck (gK M8 p1 = 6) (bR (gR M8 p1 11) fun q9 => ck (gK M8 q9 = 10 ∧ inb p3 (gN M8 q9)) (ck (gK M8 p0 = 4) (nm (sI M8 p0 4 (gI M8 q9 (p3).toNatClampNeg)) fun M10 =>
  ck (gK M10 p2 = 5) (bR (gR M10 p2 3) fun q11 => ck (gK M10 q11 = 10 ∧ inb p3 (gN M10 q11)) (ck (gK M10 p0 = 4) (nm (sI M10 p0 5 (gI M10 q11 (p3).toNatClampNeg)) fun M12 =>
  ck (gK M12 p2 = 5) (ck (gK M12 p0 = 4) (nm (sI M12 p0 8 ((gI M12 p2 0) + (1 : Int32))) fun M13 =>
  ck (gK M13 p1 = 6) (bR (gR M13 p1 9) fun q14 => ck (gK M13 q14 = 10 ∧ inb p3 (gN M13 q14)) (ck (gK M13 p0 = 4) (nm (sI M13 p0 9 (gI M13 q14 (p3).toNatClampNeg)) fun M15 =>
  ck (gK M15 p2 = 5) (bd (f_X5_countBonds p2 p1 p3 (0 : Int32) M15) fun v17 M16 =>
  ck (gK M16 p0 = 4) (nm (sI M16 p0 10 v17) fun M18 =>
  ck (gK M18 p2 = 5) (bR (gR M18 p2 4) fun q19 => bd (f_X7_cellOf p3 (0 : Int32) M18) fun v21 M20 =>
  ck (gK M20 p0 = 4) (bR (gR M20 p0 6) fun q22 => ck (gK M20 p0 = 4) (bR (gR M20 p0 6) fun q23 => ck (gK M20 q23 = 10) (ck (cpOk M20 q19 v21 q22 (0 : Int32) (Int32.ofNat (gN M20 q23))) (nm (sC M20 q22 (va_cpy (gI M20 q19) (gI M20 q22) (v21).toNatClampNeg ((0 : Int32)).toNatClampNeg ((Int32.ofNat (gN M20 q23))).toNatClampNeg)) fun M24 =>
  ck (gK M24 p1 = 6) (bR (gR M24 p1 16) fun q25 => bd (f_X6_rankOf p3 (0 : Int32) M24) fun v27 M26 =>
  ck (gK M26 p0 = 4) (bR (gR M26 p0 7) fun q28 => ck (gK M26 p0 = 4) (bR (gR M26 p0 7) fun q29 => ck (gK M26 q29 = 10) (ck (cpOk M26 q25 v27 q28 (0 : Int32) (Int32.ofNat (gN M26 q29))) (nm (sC M26 q28 (va_cpy (gI M26 q25) (gI M26 q28) (v27).toNatClampNeg ((0 : Int32)).toNatClampNeg ((Int32.ofNat (gN M26 q29))).toNatClampNeg)) fun M30 =>
  some ((), M30))))))))))))))))))))))))))))))))))))
set_option maxRecDepth 20000 in
set_option maxHeartbeats 4000000 in
theorem t_X4_open (p0 : Nat) (p1 : Nat) (p2 : Nat) (p3 : Int32) (M : Mm) (x : Unit) (M' : Mm) (h : f_X4_open p0 p1 p2 p3 M = some (x, M')) : Ctr yX4_open cX4_open 4 none rX4_open (fun _ => [.ref p0, .ref p1, .ref p2, .int p3]) M (zU x) M' := by
  refine ctr_of (plainFor_of_name (by decide)) (fun _ => Nat.le_of_ble_eq_true rfl) (fun z hz hin hq => ?_)
  have key : Sim z 0 [(0, .ref p0), (1, .ref p1), (2, .ref p2), (3, .int p3)] [] M 0 0 (f_X4_open p0 p1 p2 p3 M) (fun a b => a = x ∧ b = M') := by
    have hq : Ret z zU (fun a b => a = x ∧ b = M') := fun a b e => by rw [e.1, e.2]; exact hq
    unfold f_X4_open
    refine r_aload_n hz dX4_open_0 0 rfl ?_
    refine r_aload_n hz dX4_open_1 1 rfl ?_
    refine r_getR (j := 6) cl6 hz dX4_open_2 (by decide) wm_1_54 rfl (fun q1 => ?_)
    refine r_iload_n hz dX4_open_5 3 rfl ?_
    refine r_iald hz dX4_open_6 ?_
    refine r_putI (j := 0) cl4 hz dX4_open_7 (by decide) wm_1_233 (Or.inl rfl) rfl rfl rfl ?_
    refine r_nmM (fun M2 => ?_)
    refine r_aload_n hz dX4_open_10 0 rfl ?_
    refine r_aload_n hz dX4_open_11 1 rfl ?_
    refine r_getR (j := 7) cl6 hz dX4_open_12 (by decide) wm_1_59 rfl (fun q3 => ?_)
    refine r_iload_n hz dX4_open_15 3 rfl ?_
    refine r_iald hz dX4_open_16 ?_
    refine r_putI (j := 1) cl4 hz dX4_open_17 (by decide) wm_1_234 (Or.inl rfl) rfl rfl rfl ?_
    refine r_nmM (fun M4 => ?_)
    refine r_aload_n hz dX4_open_20 0 rfl ?_
    refine r_aload_n hz dX4_open_21 1 rfl ?_
    refine r_getR (j := 8) cl6 hz dX4_open_22 (by decide) wm_1_64 rfl (fun q5 => ?_)
    refine r_iload_n hz dX4_open_25 3 rfl ?_
    refine r_iald hz dX4_open_26 ?_
    refine r_putI (j := 2) cl4 hz dX4_open_27 (by decide) wm_1_235 (Or.inl rfl) rfl rfl rfl ?_
    refine r_nmM (fun M6 => ?_)
    refine r_aload_n hz dX4_open_30 0 rfl ?_
    refine r_aload_n hz dX4_open_31 1 rfl ?_
    refine r_getR (j := 10) cl6 hz dX4_open_32 (by decide) wm_1_73 rfl (fun q7 => ?_)
    refine r_iload_n hz dX4_open_35 3 rfl ?_
    refine r_iald hz dX4_open_36 ?_
    refine r_putI (j := 3) cl4 hz dX4_open_37 (by decide) wm_1_236 (Or.inl rfl) rfl rfl rfl ?_
    refine r_nmM (fun M8 => ?_)
    refine r_aload_n hz dX4_open_40 0 rfl ?_
    refine r_aload_n hz dX4_open_41 1 rfl ?_
    refine r_getR (j := 11) cl6 hz dX4_open_42 (by decide) wm_1_77 rfl (fun q9 => ?_)
    refine r_iload_n hz dX4_open_45 3 rfl ?_
    refine r_iald hz dX4_open_46 ?_
    refine r_putI (j := 4) cl4 hz dX4_open_47 (by decide) wm_1_237 (Or.inl rfl) rfl rfl rfl ?_
    refine r_nmM (fun M10 => ?_)
    refine r_aload_n hz dX4_open_50 0 rfl ?_
    refine r_aload_n hz dX4_open_51 2 rfl ?_
    refine r_getR (j := 3) cl5 hz dX4_open_52 (by decide) wm_1_148 rfl (fun q11 => ?_)
    refine r_iload_n hz dX4_open_55 3 rfl ?_
    refine r_iald hz dX4_open_56 ?_
    refine r_putI (j := 5) cl4 hz dX4_open_57 (by decide) wm_1_238 (Or.inl rfl) rfl rfl rfl ?_
    refine r_nmM (fun M12 => ?_)
    refine r_aload_n hz dX4_open_60 0 rfl ?_
    refine r_aload_n hz dX4_open_61 2 rfl ?_
    refine r_getI (j := 0) cl5 hz dX4_open_62 (by decide) wm_1_141 rfl ?_
    refine r_iconst (v := 1) hz dX4_open_65 rfl ?_
    refine r_iadd hz dX4_open_66 ?_
    refine r_putI (j := 8) cl4 hz dX4_open_67 (by decide) wm_2_1 (Or.inl rfl) rfl rfl rfl ?_
    refine r_nmM (fun M13 => ?_)
    refine r_aload_n hz dX4_open_70 0 rfl ?_
    refine r_aload_n hz dX4_open_71 1 rfl ?_
    refine r_getR (j := 9) cl6 hz dX4_open_72 (by decide) wm_1_69 rfl (fun q14 => ?_)
    refine r_iload_n hz dX4_open_75 3 rfl ?_
    refine r_iald hz dX4_open_76 ?_
    refine r_putI (j := 9) cl4 hz dX4_open_77 (by decide) wm_2_4 (Or.inl rfl) rfl rfl rfl ?_
    refine r_nmM (fun M15 => ?_)
    refine r_aload_n hz dX4_open_80 0 rfl ?_
    refine r_aload_n hz dX4_open_81 2 rfl ?_
    refine r_aload_n hz dX4_open_82 1 rfl ?_
    refine r_iload_n hz dX4_open_83 3 rfl ?_
    refine r_iconst (v := 0) hz dX4_open_84 rfl ?_
    refine r_callVi (As := fun _ => [.ref p1, .int p3, .int (0 : Int32)]) cl5 hz (fun _ _ h => t_X5_countBonds _ _ _ _ _ _ _ h) cal_X5_countBonds dX4_open_85 wm_3_216 wm_3_133 wm_3_134 rfl rfl (Nat.le_of_ble_eq_true rfl) ⟨(Nat.le_of_ble_eq_true rfl), (Nat.le_of_ble_eq_true rfl)⟩ ⟨(Nat.le_of_ble_eq_true rfl), (Nat.le_of_ble_eq_true rfl)⟩ (fun v17 M16 => ?_)
    refine r_putI (j := 10) cl4 hz dX4_open_88 (by decide) wm_2_7 (Or.inl rfl) rfl rfl rfl ?_
    refine r_nmM (fun M18 => ?_)
    refine r_aload_n hz dX4_open_91 2 rfl ?_
    refine r_getR (j := 4) cl5 hz dX4_open_92 (by decide) wm_1_151 rfl (fun q19 => ?_)
    refine r_iload_n hz dX4_open_95 3 rfl ?_
    refine r_iconst (v := 0) hz dX4_open_96 rfl ?_
    refine r_callSNi (As := fun _ => [.int p3, .int (0 : Int32)]) (host := "DrawnBonds") hz (fun _ _ h => t_X7_cellOf _ _ _ _ _ h) cal_X7_cellOf dX4_open_97 (List.mem_of_getElem? (i := 12) rfl) wm_3_100 rfl rfl (Nat.le_of_ble_eq_true rfl) ⟨(Nat.le_of_ble_eq_true rfl), (Nat.le_of_ble_eq_true rfl)⟩ ⟨(Nat.le_of_ble_eq_true rfl), (Nat.le_of_ble_eq_true rfl)⟩ (fun v21 M20 => ?_)
    refine r_aload_n hz dX4_open_100 0 rfl ?_
    refine r_getR (j := 6) cl4 hz dX4_open_101 (by decide) wm_1_239 rfl (fun q22 => ?_)
    refine r_iconst (v := 0) hz dX4_open_104 rfl ?_
    refine r_aload_n hz dX4_open_105 0 rfl ?_
    refine r_getR (j := 6) cl4 hz dX4_open_106 (by decide) wm_1_239 rfl (fun q23 => ?_)
    refine r_alen hz dX4_open_109 ?_
    refine r_copy hz dX4_open_110 wm_3_218 (Nat.le_of_ble_eq_true rfl) (Nat.le_of_ble_eq_true rfl) ?_
    refine r_nmM (fun M24 => ?_)
    refine r_aload_n hz dX4_open_113 1 rfl ?_
    refine r_getR (j := 16) cl6 hz dX4_open_114 (by decide) wm_1_91 rfl (fun q25 => ?_)
    refine r_iload_n hz dX4_open_117 3 rfl ?_
    refine r_iconst (v := 0) hz dX4_open_118 rfl ?_
    refine r_callSi (As := fun _ => [.int p3, .int (0 : Int32)]) hz (fun _ _ h => t_X6_rankOf _ _ _ _ _ h) cal_X6_rankOf dX4_open_119 wm_3_219 wm_3_89 rfl rfl (Nat.le_of_ble_eq_true rfl) ⟨(Nat.le_of_ble_eq_true rfl), (Nat.le_of_ble_eq_true rfl)⟩ ⟨(Nat.le_of_ble_eq_true rfl), (Nat.le_of_ble_eq_true rfl)⟩ (fun v27 M26 => ?_)
    refine r_aload_n hz dX4_open_122 0 rfl ?_
    refine r_getR (j := 7) cl4 hz dX4_open_123 (by decide) wm_2_0 rfl (fun q28 => ?_)
    refine r_iconst (v := 0) hz dX4_open_126 rfl ?_
    refine r_aload_n hz dX4_open_127 0 rfl ?_
    refine r_getR (j := 7) cl4 hz dX4_open_128 (by decide) wm_2_0 rfl (fun q29 => ?_)
    refine r_alen hz dX4_open_131 ?_
    refine r_copy hz dX4_open_132 wm_3_218 (Nat.le_of_ble_eq_true rfl) (Nat.le_of_ble_eq_true rfl) ?_
    refine r_nmM (fun M30 => ?_)
    exact r_vret hz hq dX4_open_135 (Nat.le_of_ble_eq_true rfl) (Nat.le_of_ble_eq_true rfl)
  exact key x M' h ⟨rfl, rfl⟩
theorem dX4_setCost_0 : decode cX4_setCost 0 = .ok (.iload_n 2, 1) := by decide +kernel
theorem dX4_setCost_1 : decode cX4_setCost 1 = .ok (.aload_n 0, 1) := by decide +kernel
theorem dX4_setCost_2 : decode cX4_setCost 2 = .ok (.getfield 15, 3) := by decide +kernel
theorem dX4_setCost_5 : decode cX4_setCost 5 = .ok (.if_icmp .ge 23, 3) := by decide +kernel
theorem dX4_setCost_8 : decode cX4_setCost 8 = .ok (.iload_n 1, 1) := by decide +kernel
theorem dX4_setCost_9 : decode cX4_setCost 9 = .ok (.aload_n 0, 1) := by decide +kernel
theorem dX4_setCost_10 : decode cX4_setCost 10 = .ok (.getfield 40, 3) := by decide +kernel
theorem dX4_setCost_13 : decode cX4_setCost 13 = .ok (.if_icmp .eq 15, 3) := by decide +kernel
theorem dX4_setCost_16 : decode cX4_setCost 16 = .ok (.aload_n 0, 1) := by decide +kernel
theorem dX4_setCost_17 : decode cX4_setCost 17 = .ok (.getfield 21, 3) := by decide +kernel
theorem dX4_setCost_20 : decode cX4_setCost 20 = .ok (.iconst 2, 1) := by decide +kernel
theorem dX4_setCost_21 : decode cX4_setCost 21 = .ok (.if_icmp .eq 7, 3) := by decide +kernel
theorem dX4_setCost_24 : decode cX4_setCost 24 = .ok (.iconst 1, 1) := by decide +kernel
theorem dX4_setCost_25 : decode cX4_setCost 25 = .ok (.goto 4, 3) := by decide +kernel
theorem dX4_setCost_28 : decode cX4_setCost 28 = .ok (.iconst 0, 1) := by decide +kernel
theorem dX4_setCost_29 : decode cX4_setCost 29 = .ok (.istore_n 3, 1) := by decide +kernel
theorem dX4_setCost_30 : decode cX4_setCost 30 = .ok (.aload_n 0, 1) := by decide +kernel
theorem dX4_setCost_31 : decode cX4_setCost 31 = .ok (.getfield 58, 3) := by decide +kernel
theorem dX4_setCost_34 : decode cX4_setCost 34 = .ok (.iload_n 1, 1) := by decide +kernel
theorem dX4_setCost_35 : decode cX4_setCost 35 = .ok (.iload_n 3, 1) := by decide +kernel
theorem dX4_setCost_36 : decode cX4_setCost 36 = .ok (.ifCond .eq 7, 3) := by decide +kernel
theorem dX4_setCost_39 : decode cX4_setCost 39 = .ok (.iconst 1, 1) := by decide +kernel
theorem dX4_setCost_40 : decode cX4_setCost 40 = .ok (.goto 4, 3) := by decide +kernel
theorem dX4_setCost_43 : decode cX4_setCost 43 = .ok (.iconst 0, 1) := by decide +kernel
theorem dX4_setCost_44 : decode cX4_setCost 44 = .ok (.iastore, 1) := by decide +kernel
theorem dX4_setCost_45 : decode cX4_setCost 45 = .ok (.aload_n 0, 1) := by decide +kernel
theorem dX4_setCost_46 : decode cX4_setCost 46 = .ok (.getfield 55, 3) := by decide +kernel
theorem dX4_setCost_49 : decode cX4_setCost 49 = .ok (.iload_n 1, 1) := by decide +kernel
theorem dX4_setCost_50 : decode cX4_setCost 50 = .ok (.iload_n 3, 1) := by decide +kernel
theorem dX4_setCost_51 : decode cX4_setCost 51 = .ok (.ifCond .eq 7, 3) := by decide +kernel
theorem dX4_setCost_54 : decode cX4_setCost 54 = .ok (.iload_n 2, 1) := by decide +kernel
theorem dX4_setCost_55 : decode cX4_setCost 55 = .ok (.goto 7, 3) := by decide +kernel
theorem dX4_setCost_58 : decode cX4_setCost 58 = .ok (.aload_n 0, 1) := by decide +kernel
theorem dX4_setCost_59 : decode cX4_setCost 59 = .ok (.getfield 15, 3) := by decide +kernel
theorem dX4_setCost_62 : decode cX4_setCost 62 = .ok (.iastore, 1) := by decide +kernel
theorem dX4_setCost_63 : decode cX4_setCost 63 = .ok (.return_, 1) := by decide +kernel
abbrev rX4_setCost : Room := { frames := 0, cells := 0, slots := 0, locals := 0 }
theorem cal_X4_setCost : CalOk yX4_setCost cX4_setCost 4 none 2 := ⟨wm_3_227, wm_1_5, by decide, by decide, by decide +kernel⟩
def f_X4_setCost_44 (x0 : Nat) (x1 : Int32) (x2 : Int32) (x3 : Int32) (y0 : Int32) (y1 : Int32) (y2 : Nat) (M : Mm) : Option (Unit × Mm) :=
  ck (gK M y2 = 10 ∧ inb y1 (gN M y2)) (nm (sI M y2 (y1).toNatClampNeg y0) fun M1 =>
  ck (gK M1 x0 = 4) (bR (gR M1 x0 14) fun q2 => (if x3 = 0 then
    ck (gK M1 x0 = 4) (ck (gK M1 q2 = 10 ∧ inb x1 (gN M1 q2)) (nm (sI M1 q2 (x1).toNatClampNeg (gI M1 x0 1)) fun M3 =>
    some ((), M3)))
  else
    ck (gK M1 q2 = 10 ∧ inb x1 (gN M1 q2)) (nm (sI M1 q2 (x1).toNatClampNeg x2) fun M4 =>
    some ((), M4)))))
set_option maxRecDepth 20000 in
set_option maxHeartbeats 4000000 in
theorem s_X4_setCost_44 {z : Zt} {K : Unit → Mm → Prop} (hz : Good z RX4 cX4_setCost 4 rX4_setCost none) (hq : Ret z zU K) : ∀ (x0 : Nat) (x1 : Int32) (x2 : Int32) (x3 : Int32) (y0 : Int32) (y1 : Int32) (y2 : Nat) (M : Mm), Sim z 44 [(0, .ref x0), (1, .int x1), (2, .int x2), (3, .int x3)] [.int y0, .int y1, .ref y2] M 0 0 (f_X4_setCost_44 x0 x1 x2 x3 y0 y1 y2 M) K := by
  intro x0 x1 x2 x3 y0 y1 y2 M
  unfold f_X4_setCost_44
  refine r_iast hz dX4_setCost_44 ?_
  refine r_nmM (fun M1 => ?_)
  refine r_aload_n hz dX4_setCost_45 0 rfl ?_
  refine r_getR (j := 14) cl4 hz dX4_setCost_46 (by decide) wm_2_16 rfl (fun q2 => ?_)
  refine r_iload_n hz dX4_setCost_49 1 rfl ?_
  refine r_iload_n hz dX4_setCost_50 3 rfl ?_
  refine r_if_eq (tgt := 58) hz dX4_setCost_51 rfl ?_ ?_
  · refine r_aload_n hz dX4_setCost_58 0 rfl ?_
    refine r_getI (j := 1) cl4 hz dX4_setCost_59 (by decide) wm_1_234 rfl ?_
    refine r_iast hz dX4_setCost_62 ?_
    refine r_nmM (fun M3 => ?_)
    exact r_vret hz hq dX4_setCost_63 (Nat.le_of_ble_eq_true rfl) (Nat.le_of_ble_eq_true rfl)
  · refine r_iload_n hz dX4_setCost_54 2 rfl ?_
    refine r_goto (tgt := 62) hz dX4_setCost_55 rfl ?_
    refine r_iast hz dX4_setCost_62 ?_
    refine r_nmM (fun M4 => ?_)
    exact r_vret hz hq dX4_setCost_63 (Nat.le_of_ble_eq_true rfl) (Nat.le_of_ble_eq_true rfl)
def f_X4_setCost (p0 : Nat) (p1 : Int32) (p2 : Int32) (M : Mm) : Option (Unit × Mm) :=
  ck (gK M p0 = 4) ((if (gI M p0 1) ≤ p2 then
    ck (gK M p0 = 4) (bR (gR M p0 15) fun q1 => (if (0 : Int32) = 0 then
      f_X4_setCost_44 p0 p1 p2 (0 : Int32) (0 : Int32) p1 q1 M
    else
      f_X4_setCost_44 p0 p1 p2 (0 : Int32) (1 : Int32) p1 q1 M))
  else
    ck (gK M p0 = 4) ((if p1 = (gI M p0 9) then
      ck (gK M p0 = 4) (bR (gR M p0 15) fun q2 => (if (0 : Int32) = 0 then
        f_X4_setCost_44 p0 p1 p2 (0 : Int32) (0 : Int32) p1 q2 M
      else
        f_X4_setCost_44 p0 p1 p2 (0 : Int32) (1 : Int32) p1 q2 M))
    else
      ck (gK M p0 = 4) ((if (gI M p0 3) = (2 : Int32) then
        ck (gK M p0 = 4) (bR (gR M p0 15) fun q3 => (if (0 : Int32) = 0 then
          f_X4_setCost_44 p0 p1 p2 (0 : Int32) (0 : Int32) p1 q3 M
        else
          f_X4_setCost_44 p0 p1 p2 (0 : Int32) (1 : Int32) p1 q3 M))
      else
        ck (gK M p0 = 4) (bR (gR M p0 15) fun q4 => (if (1 : Int32) = 0 then
          f_X4_setCost_44 p0 p1 p2 (1 : Int32) (0 : Int32) p1 q4 M
        else
          f_X4_setCost_44 p0 p1 p2 (1 : Int32) (1 : Int32) p1 q4 M))))))))
set_option maxRecDepth 20000 in
set_option maxHeartbeats 4000000 in
theorem t_X4_setCost (p0 : Nat) (p1 : Int32) (p2 : Int32) (M : Mm) (x : Unit) (M' : Mm) (h : f_X4_setCost p0 p1 p2 M = some (x, M')) : Ctr yX4_setCost cX4_setCost 4 none rX4_setCost (fun _ => [.ref p0, .int p1, .int p2]) M (zU x) M' := by
  refine ctr_of (plainFor_of_name (by decide)) (fun _ => Nat.le_of_ble_eq_true rfl) (fun z hz hin hq => ?_)
  have key : Sim z 0 [(0, .ref p0), (1, .int p1), (2, .int p2)] [] M 0 0 (f_X4_setCost p0 p1 p2 M) (fun a b => a = x ∧ b = M') := by
    have hq : Ret z zU (fun a b => a = x ∧ b = M') := fun a b e => by rw [e.1, e.2]; exact hq
    unfold f_X4_setCost
    refine r_iload_n hz dX4_setCost_0 2 rfl ?_
    refine r_aload_n hz dX4_setCost_1 0 rfl ?_
    refine r_getI (j := 1) cl4 hz dX4_setCost_2 (by decide) wm_1_234 rfl ?_
    refine r_icmp_ge (tgt := 28) hz dX4_setCost_5 rfl ?_ ?_
    · refine r_iconst (v := 0) hz dX4_setCost_28 rfl ?_
      refine r_istore_n (lv' := [(3, .int (0 : Int32)), (0, .ref p0), (1, .int p1), (2, .int p2)]) hz dX4_setCost_29 (by decide) rfl ?_
      refine r_aload_n hz dX4_setCost_30 1 rfl ?_
      refine r_getR (j := 15) cl4 hz dX4_setCost_31 (by decide) wm_2_18 rfl (fun q1 => ?_)
      refine r_iload_n hz dX4_setCost_34 2 rfl ?_
      refine r_iload_n hz dX4_setCost_35 0 rfl ?_
      refine r_if_eq (tgt := 43) hz dX4_setCost_36 rfl ?_ ?_
      · refine r_iconst (v := 0) hz dX4_setCost_43 rfl ?_
        refine r_sub [1, 2, 3, 0] rfl ?_
        exact s_X4_setCost_44 hz hq p0 p1 p2 (0 : Int32) (0 : Int32) p1 q1 M
      · refine r_iconst (v := 1) hz dX4_setCost_39 rfl ?_
        refine r_goto (tgt := 44) hz dX4_setCost_40 rfl ?_
        refine r_sub [1, 2, 3, 0] rfl ?_
        exact s_X4_setCost_44 hz hq p0 p1 p2 (0 : Int32) (1 : Int32) p1 q1 M
    · refine r_iload_n hz dX4_setCost_8 1 rfl ?_
      refine r_aload_n hz dX4_setCost_9 0 rfl ?_
      refine r_getI (j := 9) cl4 hz dX4_setCost_10 (by decide) wm_2_4 rfl ?_
      refine r_icmp_eq (tgt := 28) hz dX4_setCost_13 rfl ?_ ?_
      · refine r_iconst (v := 0) hz dX4_setCost_28 rfl ?_
        refine r_istore_n (lv' := [(3, .int (0 : Int32)), (0, .ref p0), (1, .int p1), (2, .int p2)]) hz dX4_setCost_29 (by decide) rfl ?_
        refine r_aload_n hz dX4_setCost_30 1 rfl ?_
        refine r_getR (j := 15) cl4 hz dX4_setCost_31 (by decide) wm_2_18 rfl (fun q2 => ?_)
        refine r_iload_n hz dX4_setCost_34 2 rfl ?_
        refine r_iload_n hz dX4_setCost_35 0 rfl ?_
        refine r_if_eq (tgt := 43) hz dX4_setCost_36 rfl ?_ ?_
        · refine r_iconst (v := 0) hz dX4_setCost_43 rfl ?_
          refine r_sub [1, 2, 3, 0] rfl ?_
          exact s_X4_setCost_44 hz hq p0 p1 p2 (0 : Int32) (0 : Int32) p1 q2 M
        · refine r_iconst (v := 1) hz dX4_setCost_39 rfl ?_
          refine r_goto (tgt := 44) hz dX4_setCost_40 rfl ?_
          refine r_sub [1, 2, 3, 0] rfl ?_
          exact s_X4_setCost_44 hz hq p0 p1 p2 (0 : Int32) (1 : Int32) p1 q2 M
      · refine r_aload_n hz dX4_setCost_16 0 rfl ?_
        refine r_getI (j := 3) cl4 hz dX4_setCost_17 (by decide) wm_1_236 rfl ?_
        refine r_iconst (v := 2) hz dX4_setCost_20 rfl ?_
        refine r_icmp_eq (tgt := 28) hz dX4_setCost_21 rfl ?_ ?_
        · refine r_iconst (v := 0) hz dX4_setCost_28 rfl ?_
          refine r_istore_n (lv' := [(3, .int (0 : Int32)), (0, .ref p0), (1, .int p1), (2, .int p2)]) hz dX4_setCost_29 (by decide) rfl ?_
          refine r_aload_n hz dX4_setCost_30 1 rfl ?_
          refine r_getR (j := 15) cl4 hz dX4_setCost_31 (by decide) wm_2_18 rfl (fun q3 => ?_)
          refine r_iload_n hz dX4_setCost_34 2 rfl ?_
          refine r_iload_n hz dX4_setCost_35 0 rfl ?_
          refine r_if_eq (tgt := 43) hz dX4_setCost_36 rfl ?_ ?_
          · refine r_iconst (v := 0) hz dX4_setCost_43 rfl ?_
            refine r_sub [1, 2, 3, 0] rfl ?_
            exact s_X4_setCost_44 hz hq p0 p1 p2 (0 : Int32) (0 : Int32) p1 q3 M
          · refine r_iconst (v := 1) hz dX4_setCost_39 rfl ?_
            refine r_goto (tgt := 44) hz dX4_setCost_40 rfl ?_
            refine r_sub [1, 2, 3, 0] rfl ?_
            exact s_X4_setCost_44 hz hq p0 p1 p2 (0 : Int32) (1 : Int32) p1 q3 M
        · refine r_iconst (v := 1) hz dX4_setCost_24 rfl ?_
          refine r_goto (tgt := 29) hz dX4_setCost_25 rfl ?_
          refine r_istore_n (lv' := [(3, .int (1 : Int32)), (0, .ref p0), (1, .int p1), (2, .int p2)]) hz dX4_setCost_29 (by decide) rfl ?_
          refine r_aload_n hz dX4_setCost_30 1 rfl ?_
          refine r_getR (j := 15) cl4 hz dX4_setCost_31 (by decide) wm_2_18 rfl (fun q4 => ?_)
          refine r_iload_n hz dX4_setCost_34 2 rfl ?_
          refine r_iload_n hz dX4_setCost_35 0 rfl ?_
          refine r_if_eq (tgt := 43) hz dX4_setCost_36 rfl ?_ ?_
          · refine r_iconst (v := 0) hz dX4_setCost_43 rfl ?_
            refine r_sub [1, 2, 3, 0] rfl ?_
            exact s_X4_setCost_44 hz hq p0 p1 p2 (1 : Int32) (0 : Int32) p1 q4 M
          · refine r_iconst (v := 1) hz dX4_setCost_39 rfl ?_
            refine r_goto (tgt := 44) hz dX4_setCost_40 rfl ?_
            refine r_sub [1, 2, 3, 0] rfl ?_
            exact s_X4_setCost_44 hz hq p0 p1 p2 (1 : Int32) (1 : Int32) p1 q4 M
  exact key x M' h ⟨rfl, rfl⟩
theorem dJ9_max_7cf53_0 : decode cJ9_max_7cf53 0 = .ok (.iload_n 0, 1) := by decide +kernel
theorem dJ9_max_7cf53_1 : decode cJ9_max_7cf53 1 = .ok (.iload_n 1, 1) := by decide +kernel
theorem dJ9_max_7cf53_2 : decode cJ9_max_7cf53 2 = .ok (.if_icmp .lt 7, 3) := by decide +kernel
theorem dJ9_max_7cf53_5 : decode cJ9_max_7cf53 5 = .ok (.iload_n 0, 1) := by decide +kernel
theorem dJ9_max_7cf53_6 : decode cJ9_max_7cf53 6 = .ok (.goto 4, 3) := by decide +kernel
theorem dJ9_max_7cf53_9 : decode cJ9_max_7cf53 9 = .ok (.iload_n 1, 1) := by decide +kernel
theorem dJ9_max_7cf53_10 : decode cJ9_max_7cf53 10 = .ok (.ireturn, 1) := by decide +kernel
abbrev rJ9_max_7cf53 : Room := { frames := 0, cells := 0, slots := 0, locals := 0 }
theorem cal_J9_max_7cf53 : CalOk yJ9_max_7cf53 cJ9_max_7cf53 2 (some .int) 2 := ⟨wm_3_234, wm_1_11, by decide, by decide, by decide +kernel⟩
def f_J9_max_7cf53 (p0 : Int32) (p1 : Int32) (M : Mm) : Option (Int32 × Mm) :=
  (if p0 < p1 then
    some (p1, M)
  else
    some (p0, M))
set_option maxRecDepth 20000 in
set_option maxHeartbeats 4000000 in
theorem t_J9_max_7cf53 (p0 : Int32) (p1 : Int32) (M : Mm) (x : Int32) (M' : Mm) (h : f_J9_max_7cf53 p0 p1 M = some (x, M')) : Ctr yJ9_max_7cf53 cJ9_max_7cf53 2 (some .int) rJ9_max_7cf53 (fun _ => [.int p0, .int p1]) M (zI x) M' := by
  refine ctr_of (by decide +kernel) (fun _ => Nat.le_of_ble_eq_true rfl) (fun z hz hin hq => ?_)
  have key : Sim z 0 [(0, .int p0), (1, .int p1)] [] M 0 0 (f_J9_max_7cf53 p0 p1 M) (fun a b => a = x ∧ b = M') := by
    have hq : Ret z zI (fun a b => a = x ∧ b = M') := fun a b e => by rw [e.1, e.2]; exact hq
    unfold f_J9_max_7cf53
    refine r_iload_n hz dJ9_max_7cf53_0 0 rfl ?_
    refine r_iload_n hz dJ9_max_7cf53_1 1 rfl ?_
    refine r_icmp_lt (tgt := 9) hz dJ9_max_7cf53_2 rfl ?_ ?_
    · refine r_iload_n hz dJ9_max_7cf53_9 1 rfl ?_
      exact r_iret hz hq dJ9_max_7cf53_10 (Nat.le_of_ble_eq_true rfl) (Nat.le_of_ble_eq_true rfl)
    · refine r_iload_n hz dJ9_max_7cf53_5 0 rfl ?_
      refine r_goto (tgt := 10) hz dJ9_max_7cf53_6 rfl ?_
      exact r_iret hz hq dJ9_max_7cf53_10 (Nat.le_of_ble_eq_true rfl) (Nat.le_of_ble_eq_true rfl)
  exact key x M' h ⟨rfl, rfl⟩
theorem dX4_setDue_0 : decode cX4_setDue 0 = .ok (.iload_n 1, 1) := by decide +kernel
theorem dX4_setDue_1 : decode cX4_setDue 1 = .ok (.aload_n 0, 1) := by decide +kernel
theorem dX4_setDue_2 : decode cX4_setDue 2 = .ok (.getfield 40, 3) := by decide +kernel
theorem dX4_setDue_5 : decode cX4_setDue 5 = .ok (.if_icmp .ne 18, 3) := by decide +kernel
theorem dX4_setDue_8 : decode cX4_setDue 8 = .ok (.aload_n 0, 1) := by decide +kernel
theorem dX4_setDue_9 : decode cX4_setDue 9 = .ok (.getfield 52, 3) := by decide +kernel
theorem dX4_setDue_12 : decode cX4_setDue 12 = .ok (.iload_n 1, 1) := by decide +kernel
theorem dX4_setDue_13 : decode cX4_setDue 13 = .ok (.aload_n 0, 1) := by decide +kernel
theorem dX4_setDue_14 : decode cX4_setDue 14 = .ok (.getfield 46, 3) := by decide +kernel
theorem dX4_setDue_17 : decode cX4_setDue 17 = .ok (.iload_n 1, 1) := by decide +kernel
theorem dX4_setDue_18 : decode cX4_setDue 18 = .ok (.iaload, 1) := by decide +kernel
theorem dX4_setDue_19 : decode cX4_setDue 19 = .ok (.iastore, 1) := by decide +kernel
theorem dX4_setDue_20 : decode cX4_setDue 20 = .ok (.goto 160, 3) := by decide +kernel
theorem dX4_setDue_23 : decode cX4_setDue 23 = .ok (.aload_n 0, 1) := by decide +kernel
theorem dX4_setDue_24 : decode cX4_setDue 24 = .ok (.getfield 21, 3) := by decide +kernel
theorem dX4_setDue_27 : decode cX4_setDue 27 = .ok (.ifCond .ne 48, 3) := by decide +kernel
theorem dX4_setDue_30 : decode cX4_setDue 30 = .ok (.aload_n 0, 1) := by decide +kernel
theorem dX4_setDue_31 : decode cX4_setDue 31 = .ok (.getfield 9, 3) := by decide +kernel
theorem dX4_setDue_34 : decode cX4_setDue 34 = .ok (.aload_n 0, 1) := by decide +kernel
theorem dX4_setDue_35 : decode cX4_setDue 35 = .ok (.getfield 46, 3) := by decide +kernel
theorem dX4_setDue_38 : decode cX4_setDue 38 = .ok (.iload_n 1, 1) := by decide +kernel
theorem dX4_setDue_39 : decode cX4_setDue 39 = .ok (.iaload, 1) := by decide +kernel
theorem dX4_setDue_40 : decode cX4_setDue 40 = .ok (.isub, 1) := by decide +kernel
theorem dX4_setDue_41 : decode cX4_setDue 41 = .ok (.istore_n 2, 1) := by decide +kernel
theorem dX4_setDue_42 : decode cX4_setDue 42 = .ok (.aload_n 0, 1) := by decide +kernel
theorem dX4_setDue_43 : decode cX4_setDue 43 = .ok (.getfield 52, 3) := by decide +kernel
theorem dX4_setDue_46 : decode cX4_setDue 46 = .ok (.iload_n 1, 1) := by decide +kernel
theorem dX4_setDue_47 : decode cX4_setDue 47 = .ok (.aload_n 0, 1) := by decide +kernel
theorem dX4_setDue_48 : decode cX4_setDue 48 = .ok (.getfield 40, 3) := by decide +kernel
theorem dX4_setDue_51 : decode cX4_setDue 51 = .ok (.ifCond .le 19, 3) := by decide +kernel
theorem dX4_setDue_54 : decode cX4_setDue 54 = .ok (.aload_n 0, 1) := by decide +kernel
theorem dX4_setDue_55 : decode cX4_setDue 55 = .ok (.getfield 9, 3) := by decide +kernel
theorem dX4_setDue_58 : decode cX4_setDue 58 = .ok (.iload_n 1, 1) := by decide +kernel
theorem dX4_setDue_59 : decode cX4_setDue 59 = .ok (.imul, 1) := by decide +kernel
theorem dX4_setDue_60 : decode cX4_setDue 60 = .ok (.aload_n 0, 1) := by decide +kernel
theorem dX4_setDue_61 : decode cX4_setDue 61 = .ok (.getfield 40, 3) := by decide +kernel
theorem dX4_setDue_64 : decode cX4_setDue 64 = .ok (.idiv, 1) := by decide +kernel
theorem dX4_setDue_65 : decode cX4_setDue 65 = .ok (.iload_n 2, 1) := by decide +kernel
theorem dX4_setDue_66 : decode cX4_setDue 66 = .ok (.isub, 1) := by decide +kernel
theorem dX4_setDue_67 : decode cX4_setDue 67 = .ok (.goto 4, 3) := by decide +kernel
theorem dX4_setDue_70 : decode cX4_setDue 70 = .ok (.iconst 0, 1) := by decide +kernel
theorem dX4_setDue_71 : decode cX4_setDue 71 = .ok (.iastore, 1) := by decide +kernel
theorem dX4_setDue_72 : decode cX4_setDue 72 = .ok (.goto 108, 3) := by decide +kernel
theorem dX4_setDue_75 : decode cX4_setDue 75 = .ok (.aload_n 0, 1) := by decide +kernel
theorem dX4_setDue_76 : decode cX4_setDue 76 = .ok (.getfield 21, 3) := by decide +kernel
theorem dX4_setDue_79 : decode cX4_setDue 79 = .ok (.iconst 1, 1) := by decide +kernel
theorem dX4_setDue_80 : decode cX4_setDue 80 = .ok (.if_icmp .ne 93, 3) := by decide +kernel
theorem dX4_setDue_83 : decode cX4_setDue 83 = .ok (.aload_n 0, 1) := by decide +kernel
theorem dX4_setDue_84 : decode cX4_setDue 84 = .ok (.getfield 61, 3) := by decide +kernel
theorem dX4_setDue_87 : decode cX4_setDue 87 = .ok (.iload_n 1, 1) := by decide +kernel
theorem dX4_setDue_88 : decode cX4_setDue 88 = .ok (.dup2, 1) := by decide +kernel
theorem dX4_setDue_89 : decode cX4_setDue 89 = .ok (.iaload, 1) := by decide +kernel
theorem dX4_setDue_90 : decode cX4_setDue 90 = .ok (.iconst 0, 1) := by decide +kernel
theorem dX4_setDue_91 : decode cX4_setDue 91 = .ok (.aload_n 0, 1) := by decide +kernel
theorem dX4_setDue_92 : decode cX4_setDue 92 = .ok (.getfield 24, 3) := by decide +kernel
theorem dX4_setDue_95 : decode cX4_setDue 95 = .ok (.aload_n 0, 1) := by decide +kernel
theorem dX4_setDue_96 : decode cX4_setDue 96 = .ok (.getfield 49, 3) := by decide +kernel
theorem dX4_setDue_99 : decode cX4_setDue 99 = .ok (.iload_n 1, 1) := by decide +kernel
theorem dX4_setDue_100 : decode cX4_setDue 100 = .ok (.iaload, 1) := by decide +kernel
theorem dX4_setDue_101 : decode cX4_setDue 101 = .ok (.isub, 1) := by decide +kernel
theorem dX4_setDue_102 : decode cX4_setDue 102 = .ok (.invokestatic 120, 3) := by decide +kernel
theorem dX4_setDue_105 : decode cX4_setDue 105 = .ok (.iadd, 1) := by decide +kernel
theorem dX4_setDue_106 : decode cX4_setDue 106 = .ok (.iastore, 1) := by decide +kernel
theorem dX4_setDue_107 : decode cX4_setDue 107 = .ok (.aload_n 0, 1) := by decide +kernel
theorem dX4_setDue_108 : decode cX4_setDue 108 = .ok (.getfield 52, 3) := by decide +kernel
theorem dX4_setDue_111 : decode cX4_setDue 111 = .ok (.iload_n 1, 1) := by decide +kernel
theorem dX4_setDue_112 : decode cX4_setDue 112 = .ok (.aload_n 0, 1) := by decide +kernel
theorem dX4_setDue_113 : decode cX4_setDue 113 = .ok (.getfield 55, 3) := by decide +kernel
theorem dX4_setDue_116 : decode cX4_setDue 116 = .ok (.iload_n 1, 1) := by decide +kernel
theorem dX4_setDue_117 : decode cX4_setDue 117 = .ok (.iaload, 1) := by decide +kernel
theorem dX4_setDue_118 : decode cX4_setDue 118 = .ok (.ifCond .le 28, 3) := by decide +kernel
theorem dX4_setDue_121 : decode cX4_setDue 121 = .ok (.aload_n 0, 1) := by decide +kernel
theorem dX4_setDue_122 : decode cX4_setDue 122 = .ok (.getfield 46, 3) := by decide +kernel
theorem dX4_setDue_125 : decode cX4_setDue 125 = .ok (.iload_n 1, 1) := by decide +kernel
theorem dX4_setDue_126 : decode cX4_setDue 126 = .ok (.iaload, 1) := by decide +kernel
theorem dX4_setDue_127 : decode cX4_setDue 127 = .ok (.aload_n 0, 1) := by decide +kernel
theorem dX4_setDue_128 : decode cX4_setDue 128 = .ok (.getfield 61, 3) := by decide +kernel
theorem dX4_setDue_131 : decode cX4_setDue 131 = .ok (.iload_n 1, 1) := by decide +kernel
theorem dX4_setDue_132 : decode cX4_setDue 132 = .ok (.iaload, 1) := by decide +kernel
theorem dX4_setDue_133 : decode cX4_setDue 133 = .ok (.aload_n 0, 1) := by decide +kernel
theorem dX4_setDue_134 : decode cX4_setDue 134 = .ok (.getfield 55, 3) := by decide +kernel
theorem dX4_setDue_137 : decode cX4_setDue 137 = .ok (.iload_n 1, 1) := by decide +kernel
theorem dX4_setDue_138 : decode cX4_setDue 138 = .ok (.iaload, 1) := by decide +kernel
theorem dX4_setDue_139 : decode cX4_setDue 139 = .ok (.idiv, 1) := by decide +kernel
theorem dX4_setDue_140 : decode cX4_setDue 140 = .ok (.invokestatic 125, 3) := by decide +kernel
theorem dX4_setDue_143 : decode cX4_setDue 143 = .ok (.goto 4, 3) := by decide +kernel
theorem dX4_setDue_146 : decode cX4_setDue 146 = .ok (.iconst 0, 1) := by decide +kernel
theorem dX4_setDue_147 : decode cX4_setDue 147 = .ok (.iastore, 1) := by decide +kernel
theorem dX4_setDue_148 : decode cX4_setDue 148 = .ok (.aload_n 0, 1) := by decide +kernel
theorem dX4_setDue_149 : decode cX4_setDue 149 = .ok (.getfield 61, 3) := by decide +kernel
theorem dX4_setDue_152 : decode cX4_setDue 152 = .ok (.iload_n 1, 1) := by decide +kernel
theorem dX4_setDue_153 : decode cX4_setDue 153 = .ok (.dup2, 1) := by decide +kernel
theorem dX4_setDue_154 : decode cX4_setDue 154 = .ok (.iaload, 1) := by decide +kernel
theorem dX4_setDue_155 : decode cX4_setDue 155 = .ok (.aload_n 0, 1) := by decide +kernel
theorem dX4_setDue_156 : decode cX4_setDue 156 = .ok (.getfield 52, 3) := by decide +kernel
theorem dX4_setDue_159 : decode cX4_setDue 159 = .ok (.iload_n 1, 1) := by decide +kernel
theorem dX4_setDue_160 : decode cX4_setDue 160 = .ok (.iaload, 1) := by decide +kernel
theorem dX4_setDue_161 : decode cX4_setDue 161 = .ok (.aload_n 0, 1) := by decide +kernel
theorem dX4_setDue_162 : decode cX4_setDue 162 = .ok (.getfield 55, 3) := by decide +kernel
theorem dX4_setDue_165 : decode cX4_setDue 165 = .ok (.iload_n 1, 1) := by decide +kernel
theorem dX4_setDue_166 : decode cX4_setDue 166 = .ok (.iaload, 1) := by decide +kernel
theorem dX4_setDue_167 : decode cX4_setDue 167 = .ok (.imul, 1) := by decide +kernel
theorem dX4_setDue_168 : decode cX4_setDue 168 = .ok (.isub, 1) := by decide +kernel
theorem dX4_setDue_169 : decode cX4_setDue 169 = .ok (.iastore, 1) := by decide +kernel
theorem dX4_setDue_170 : decode cX4_setDue 170 = .ok (.goto 10, 3) := by decide +kernel
theorem dX4_setDue_173 : decode cX4_setDue 173 = .ok (.aload_n 0, 1) := by decide +kernel
theorem dX4_setDue_174 : decode cX4_setDue 174 = .ok (.getfield 52, 3) := by decide +kernel
theorem dX4_setDue_177 : decode cX4_setDue 177 = .ok (.iload_n 1, 1) := by decide +kernel
theorem dX4_setDue_178 : decode cX4_setDue 178 = .ok (.iconst 0, 1) := by decide +kernel
theorem dX4_setDue_179 : decode cX4_setDue 179 = .ok (.iastore, 1) := by decide +kernel
theorem dX4_setDue_180 : decode cX4_setDue 180 = .ok (.return_, 1) := by decide +kernel
abbrev rX4_setDue : Room := { frames := 1, cells := 0, slots := 0, locals := 21 }
theorem cal_X4_setDue : CalOk yX4_setDue cX4_setDue 3 none 1 := ⟨wm_3_231, wm_1_5, by decide, by decide, by decide +kernel⟩
def f_X4_setDue_147 (x0 : Nat) (x1 : Int32) (y0 : Int32) (y1 : Int32) (y2 : Nat) (M : Mm) : Option (Unit × Mm) :=
  ck (gK M y2 = 10 ∧ inb y1 (gN M y2)) (nm (sI M y2 (y1).toNatClampNeg y0) fun M1 =>
  ck (gK M1 x0 = 4) (bR (gR M1 x0 16) fun q2 => ck (gK M1 q2 = 10 ∧ inb x1 (gN M1 q2)) (ck (gK M1 x0 = 4) (bR (gR M1 x0 13) fun q3 => ck (gK M1 q3 = 10 ∧ inb x1 (gN M1 q3)) (ck (gK M1 x0 = 4) (bR (gR M1 x0 14) fun q4 => ck (gK M1 q4 = 10 ∧ inb x1 (gN M1 q4)) (ck (gK M1 q2 = 10 ∧ inb x1 (gN M1 q2)) (nm (sI M1 q2 (x1).toNatClampNeg ((gI M1 q2 (x1).toNatClampNeg) - ((gI M1 q3 (x1).toNatClampNeg) * (gI M1 q4 (x1).toNatClampNeg)))) fun M5 =>
  some ((), M5)))))))))
set_option maxRecDepth 20000 in
set_option maxHeartbeats 4000000 in
theorem s_X4_setDue_147 {z : Zt} {K : Unit → Mm → Prop} (hz : Good z RX4 cX4_setDue 3 rX4_setDue none) (hq : Ret z zU K) : ∀ (x0 : Nat) (x1 : Int32) (y0 : Int32) (y1 : Int32) (y2 : Nat) (M : Mm), Sim z 147 [(0, .ref x0), (1, .int x1)] [.int y0, .int y1, .ref y2] M 0 0 (f_X4_setDue_147 x0 x1 y0 y1 y2 M) K := by
  intro x0 x1 y0 y1 y2 M
  unfold f_X4_setDue_147
  refine r_iast hz dX4_setDue_147 ?_
  refine r_nmM (fun M1 => ?_)
  refine r_aload_n hz dX4_setDue_148 0 rfl ?_
  refine r_getR (j := 16) cl4 hz dX4_setDue_149 (by decide) wm_2_20 rfl (fun q2 => ?_)
  refine r_iload_n hz dX4_setDue_152 1 rfl ?_
  refine r_dup2 hz dX4_setDue_153 rfl rfl ?_
  refine r_iald hz dX4_setDue_154 ?_
  refine r_aload_n hz dX4_setDue_155 0 rfl ?_
  refine r_getR (j := 13) cl4 hz dX4_setDue_156 (by decide) wm_2_14 rfl (fun q3 => ?_)
  refine r_iload_n hz dX4_setDue_159 1 rfl ?_
  refine r_iald hz dX4_setDue_160 ?_
  refine r_aload_n hz dX4_setDue_161 0 rfl ?_
  refine r_getR (j := 14) cl4 hz dX4_setDue_162 (by decide) wm_2_16 rfl (fun q4 => ?_)
  refine r_iload_n hz dX4_setDue_165 1 rfl ?_
  refine r_iald hz dX4_setDue_166 ?_
  refine r_imul hz dX4_setDue_167 ?_
  refine r_isub hz dX4_setDue_168 ?_
  refine r_iast hz dX4_setDue_169 ?_
  refine r_nmM (fun M5 => ?_)
  refine r_goto (tgt := 180) hz dX4_setDue_170 rfl ?_
  exact r_vret hz hq dX4_setDue_180 (Nat.le_of_ble_eq_true rfl) (Nat.le_of_ble_eq_true rfl)
def f_X4_setDue (p0 : Nat) (p1 : Int32) (M : Mm) : Option (Unit × Mm) :=
  ck (gK M p0 = 4) ((if ¬ p1 = (gI M p0 9) then
    ck (gK M p0 = 4) ((if ¬ (gI M p0 3) = 0 then
      ck (gK M p0 = 4) ((if ¬ (gI M p0 3) = (1 : Int32) then
        ck (gK M p0 = 4) (bR (gR M p0 13) fun q1 => ck (gK M q1 = 10 ∧ inb p1 (gN M q1)) (nm (sI M q1 (p1).toNatClampNeg (0 : Int32)) fun M2 =>
        some ((), M2)))
      else
        ck (gK M p0 = 4) (bR (gR M p0 16) fun q3 => ck (gK M q3 = 10 ∧ inb p1 (gN M q3)) (ck (gK M p0 = 4) (ck (gK M p0 = 4) (bR (gR M p0 12) fun q4 => ck (gK M q4 = 10 ∧ inb p1 (gN M q4)) (bd (f_J9_max_7cf53 (0 : Int32) ((gI M p0 4) - (gI M q4 (p1).toNatClampNeg)) M) fun v6 M5 =>
        ck (gK M5 q3 = 10 ∧ inb p1 (gN M5 q3)) (nm (sI M5 q3 (p1).toNatClampNeg ((gI M q3 (p1).toNatClampNeg) + v6)) fun M7 =>
        ck (gK M7 p0 = 4) (bR (gR M7 p0 13) fun q8 => ck (gK M7 p0 = 4) (bR (gR M7 p0 14) fun q9 => ck (gK M7 q9 = 10 ∧ inb p1 (gN M7 q9)) ((if (gI M7 q9 (p1).toNatClampNeg) ≤ 0 then
          f_X4_setDue_147 p0 p1 (0 : Int32) p1 q8 M7
        else
          ck (gK M7 p0 = 4) (bR (gR M7 p0 11) fun q10 => ck (gK M7 q10 = 10 ∧ inb p1 (gN M7 q10)) (ck (gK M7 p0 = 4) (bR (gR M7 p0 16) fun q11 => ck (gK M7 q11 = 10 ∧ inb p1 (gN M7 q11)) (ck (gK M7 p0 = 4) (bR (gR M7 p0 14) fun q12 => ck (gK M7 q12 = 10 ∧ inb p1 (gN M7 q12)) (ck (¬ (gI M7 q12 (p1).toNatClampNeg) = 0) (bd (f_J9_min_7cf53 (gI M7 q10 (p1).toNatClampNeg) ((gI M7 q11 (p1).toNatClampNeg) / (gI M7 q12 (p1).toNatClampNeg)) M7) fun v14 M13 =>
          f_X4_setDue_147 p0 p1 v14 p1 q8 M13)))))))))))))))))))
    else
      ck (gK M p0 = 4) (ck (gK M p0 = 4) (bR (gR M p0 11) fun q15 => ck (gK M q15 = 10 ∧ inb p1 (gN M q15)) (nm ((gI M p0 0) - (gI M q15 (p1).toNatClampNeg)) fun v16 =>
      ck (gK M p0 = 4) (bR (gR M p0 13) fun q17 => ck (gK M p0 = 4) ((if (gI M p0 9) ≤ 0 then
        ck (gK M q17 = 10 ∧ inb p1 (gN M q17)) (nm (sI M q17 (p1).toNatClampNeg (0 : Int32)) fun M18 =>
        some ((), M18))
      else
        ck (gK M p0 = 4) (ck (gK M p0 = 4) (ck (¬ (gI M p0 9) = 0) (ck (gK M q17 = 10 ∧ inb p1 (gN M q17)) (nm (sI M q17 (p1).toNatClampNeg ((((gI M p0 0) * p1) / (gI M p0 9)) - v16)) fun M19 =>
        some ((), M19)))))))))))))
  else
    ck (gK M p0 = 4) (bR (gR M p0 13) fun q20 => ck (gK M p0 = 4) (bR (gR M p0 11) fun q21 => ck (gK M q21 = 10 ∧ inb p1 (gN M q21)) (ck (gK M q20 = 10 ∧ inb p1 (gN M q20)) (nm (sI M q20 (p1).toNatClampNeg (gI M q21 (p1).toNatClampNeg)) fun M22 =>
    some ((), M22)))))))
set_option maxRecDepth 20000 in
set_option maxHeartbeats 4000000 in
theorem t_X4_setDue (p0 : Nat) (p1 : Int32) (M : Mm) (x : Unit) (M' : Mm) (h : f_X4_setDue p0 p1 M = some (x, M')) : Ctr yX4_setDue cX4_setDue 3 none rX4_setDue (fun _ => [.ref p0, .int p1]) M (zU x) M' := by
  refine ctr_of (plainFor_of_name (by decide)) (fun _ => Nat.le_of_ble_eq_true rfl) (fun z hz hin hq => ?_)
  have key : Sim z 0 [(0, .ref p0), (1, .int p1)] [] M 0 0 (f_X4_setDue p0 p1 M) (fun a b => a = x ∧ b = M') := by
    have hq : Ret z zU (fun a b => a = x ∧ b = M') := fun a b e => by rw [e.1, e.2]; exact hq
    unfold f_X4_setDue
    refine r_iload_n hz dX4_setDue_0 1 rfl ?_
    refine r_aload_n hz dX4_setDue_1 0 rfl ?_
    refine r_getI (j := 9) cl4 hz dX4_setDue_2 (by decide) wm_2_4 rfl ?_
    refine r_icmp_ne (tgt := 23) hz dX4_setDue_5 rfl ?_ ?_
    · refine r_aload_n hz dX4_setDue_23 0 rfl ?_
      refine r_getI (j := 3) cl4 hz dX4_setDue_24 (by decide) wm_1_236 rfl ?_
      refine r_if_ne (tgt := 75) hz dX4_setDue_27 rfl ?_ ?_
      · refine r_aload_n hz dX4_setDue_75 0 rfl ?_
        refine r_getI (j := 3) cl4 hz dX4_setDue_76 (by decide) wm_1_236 rfl ?_
        refine r_iconst (v := 1) hz dX4_setDue_79 rfl ?_
        refine r_icmp_ne (tgt := 173) hz dX4_setDue_80 rfl ?_ ?_
        · refine r_aload_n hz dX4_setDue_173 0 rfl ?_
          refine r_getR (j := 13) cl4 hz dX4_setDue_174 (by decide) wm_2_14 rfl (fun q1 => ?_)
          refine r_iload_n hz dX4_setDue_177 1 rfl ?_
          refine r_iconst (v := 0) hz dX4_setDue_178 rfl ?_
          refine r_iast hz dX4_setDue_179 ?_
          refine r_nmM (fun M2 => ?_)
          exact r_vret hz hq dX4_setDue_180 (Nat.le_of_ble_eq_true rfl) (Nat.le_of_ble_eq_true rfl)
        · refine r_aload_n hz dX4_setDue_83 0 rfl ?_
          refine r_getR (j := 16) cl4 hz dX4_setDue_84 (by decide) wm_2_20 rfl (fun q3 => ?_)
          refine r_iload_n hz dX4_setDue_87 1 rfl ?_
          refine r_dup2 hz dX4_setDue_88 rfl rfl ?_
          refine r_iald hz dX4_setDue_89 ?_
          refine r_iconst (v := 0) hz dX4_setDue_90 rfl ?_
          refine r_aload_n hz dX4_setDue_91 0 rfl ?_
          refine r_getI (j := 4) cl4 hz dX4_setDue_92 (by decide) wm_1_237 rfl ?_
          refine r_aload_n hz dX4_setDue_95 0 rfl ?_
          refine r_getR (j := 12) cl4 hz dX4_setDue_96 (by decide) wm_2_12 rfl (fun q4 => ?_)
          refine r_iload_n hz dX4_setDue_99 1 rfl ?_
          refine r_iald hz dX4_setDue_100 ?_
          refine r_isub hz dX4_setDue_101 ?_
          refine r_callSi (As := fun _ => [.int (0 : Int32), .int ((gI M p0 4) - (gI M q4 (p1).toNatClampNeg))]) hz (fun _ _ h => t_J9_max_7cf53 _ _ _ _ _ h) cal_J9_max_7cf53 dX4_setDue_102 wm_3_232 wm_3_233 rfl rfl (Nat.le_of_ble_eq_true rfl) ⟨(Nat.le_of_ble_eq_true rfl), (Nat.le_of_ble_eq_true rfl)⟩ ⟨(Nat.le_of_ble_eq_true rfl), (Nat.le_of_ble_eq_true rfl)⟩ (fun v6 M5 => ?_)
          refine r_iadd hz dX4_setDue_105 ?_
          refine r_iast hz dX4_setDue_106 ?_
          refine r_nmM (fun M7 => ?_)
          refine r_aload_n hz dX4_setDue_107 0 rfl ?_
          refine r_getR (j := 13) cl4 hz dX4_setDue_108 (by decide) wm_2_14 rfl (fun q8 => ?_)
          refine r_iload_n hz dX4_setDue_111 1 rfl ?_
          refine r_aload_n hz dX4_setDue_112 0 rfl ?_
          refine r_getR (j := 14) cl4 hz dX4_setDue_113 (by decide) wm_2_16 rfl (fun q9 => ?_)
          refine r_iload_n hz dX4_setDue_116 1 rfl ?_
          refine r_iald hz dX4_setDue_117 ?_
          refine r_if_le (tgt := 146) hz dX4_setDue_118 rfl ?_ ?_
          · refine r_iconst (v := 0) hz dX4_setDue_146 rfl ?_
            exact s_X4_setDue_147 hz hq p0 p1 (0 : Int32) p1 q8 M7
          · refine r_aload_n hz dX4_setDue_121 0 rfl ?_
            refine r_getR (j := 11) cl4 hz dX4_setDue_122 (by decide) wm_2_10 rfl (fun q10 => ?_)
            refine r_iload_n hz dX4_setDue_125 1 rfl ?_
            refine r_iald hz dX4_setDue_126 ?_
            refine r_aload_n hz dX4_setDue_127 0 rfl ?_
            refine r_getR (j := 16) cl4 hz dX4_setDue_128 (by decide) wm_2_20 rfl (fun q11 => ?_)
            refine r_iload_n hz dX4_setDue_131 1 rfl ?_
            refine r_iald hz dX4_setDue_132 ?_
            refine r_aload_n hz dX4_setDue_133 0 rfl ?_
            refine r_getR (j := 14) cl4 hz dX4_setDue_134 (by decide) wm_2_16 rfl (fun q12 => ?_)
            refine r_iload_n hz dX4_setDue_137 1 rfl ?_
            refine r_iald hz dX4_setDue_138 ?_
            refine r_idiv hz dX4_setDue_139 ?_
            refine r_callSi (As := fun _ => [.int (gI M7 q10 (p1).toNatClampNeg), .int ((gI M7 q11 (p1).toNatClampNeg) / (gI M7 q12 (p1).toNatClampNeg))]) hz (fun _ _ h => t_J9_min_7cf53 _ _ _ _ _ h) cal_J9_min_7cf53 dX4_setDue_140 wm_3_235 wm_2_165 rfl rfl (Nat.le_of_ble_eq_true rfl) ⟨(Nat.le_of_ble_eq_true rfl), (Nat.le_of_ble_eq_true rfl)⟩ ⟨(Nat.le_of_ble_eq_true rfl), (Nat.le_of_ble_eq_true rfl)⟩ (fun v14 M13 => ?_)
            refine r_goto (tgt := 147) hz dX4_setDue_143 rfl ?_
            exact s_X4_setDue_147 hz hq p0 p1 v14 p1 q8 M13
      · refine r_aload_n hz dX4_setDue_30 0 rfl ?_
        refine r_getI (j := 0) cl4 hz dX4_setDue_31 (by decide) wm_1_233 rfl ?_
        refine r_aload_n hz dX4_setDue_34 0 rfl ?_
        refine r_getR (j := 11) cl4 hz dX4_setDue_35 (by decide) wm_2_10 rfl (fun q15 => ?_)
        refine r_iload_n hz dX4_setDue_38 1 rfl ?_
        refine r_iald hz dX4_setDue_39 ?_
        refine r_isub hz dX4_setDue_40 ?_
        refine r_nmi (fun v16 => ?_)
        refine r_istore_n (lv' := [(2, .int v16), (0, .ref p0), (1, .int p1)]) hz dX4_setDue_41 (by decide) rfl ?_
        refine r_aload_n hz dX4_setDue_42 1 rfl ?_
        refine r_getR (j := 13) cl4 hz dX4_setDue_43 (by decide) wm_2_14 rfl (fun q17 => ?_)
        refine r_iload_n hz dX4_setDue_46 2 rfl ?_
        refine r_aload_n hz dX4_setDue_47 1 rfl ?_
        refine r_getI (j := 9) cl4 hz dX4_setDue_48 (by decide) wm_2_4 rfl ?_
        refine r_if_le (tgt := 70) hz dX4_setDue_51 rfl ?_ ?_
        · refine r_iconst (v := 0) hz dX4_setDue_70 rfl ?_
          refine r_iast hz dX4_setDue_71 ?_
          refine r_nmM (fun M18 => ?_)
          refine r_goto (tgt := 180) hz dX4_setDue_72 rfl ?_
          exact r_vret hz hq dX4_setDue_180 (Nat.le_of_ble_eq_true rfl) (Nat.le_of_ble_eq_true rfl)
        · refine r_aload_n hz dX4_setDue_54 1 rfl ?_
          refine r_getI (j := 0) cl4 hz dX4_setDue_55 (by decide) wm_1_233 rfl ?_
          refine r_iload_n hz dX4_setDue_58 2 rfl ?_
          refine r_imul hz dX4_setDue_59 ?_
          refine r_aload_n hz dX4_setDue_60 1 rfl ?_
          refine r_getI (j := 9) cl4 hz dX4_setDue_61 (by decide) wm_2_4 rfl ?_
          refine r_idiv hz dX4_setDue_64 ?_
          refine r_iload_n hz dX4_setDue_65 0 rfl ?_
          refine r_isub hz dX4_setDue_66 ?_
          refine r_goto (tgt := 71) hz dX4_setDue_67 rfl ?_
          refine r_iast hz dX4_setDue_71 ?_
          refine r_nmM (fun M19 => ?_)
          refine r_goto (tgt := 180) hz dX4_setDue_72 rfl ?_
          exact r_vret hz hq dX4_setDue_180 (Nat.le_of_ble_eq_true rfl) (Nat.le_of_ble_eq_true rfl)
    · refine r_aload_n hz dX4_setDue_8 0 rfl ?_
      refine r_getR (j := 13) cl4 hz dX4_setDue_9 (by decide) wm_2_14 rfl (fun q20 => ?_)
      refine r_iload_n hz dX4_setDue_12 1 rfl ?_
      refine r_aload_n hz dX4_setDue_13 0 rfl ?_
      refine r_getR (j := 11) cl4 hz dX4_setDue_14 (by decide) wm_2_10 rfl (fun q21 => ?_)
      refine r_iload_n hz dX4_setDue_17 1 rfl ?_
      refine r_iald hz dX4_setDue_18 ?_
      refine r_iast hz dX4_setDue_19 ?_
      refine r_nmM (fun M22 => ?_)
      refine r_goto (tgt := 180) hz dX4_setDue_20 rfl ?_
      exact r_vret hz hq dX4_setDue_180 (Nat.le_of_ble_eq_true rfl) (Nat.le_of_ble_eq_true rfl)
  exact key x M' h ⟨rfl, rfl⟩
theorem dX4_run_0 : decode cX4_run 0 = .ok (.aload_n 0, 1) := by decide +kernel
theorem dX4_run_1 : decode cX4_run 1 = .ok (.getfield 43, 3) := by decide +kernel
theorem dX4_run_4 : decode cX4_run 4 = .ok (.istore 4, 2) := by decide +kernel
theorem dX4_run_6 : decode cX4_run 6 = .ok (.aload_n 0, 1) := by decide +kernel
theorem dX4_run_7 : decode cX4_run 7 = .ok (.getfield 27, 3) := by decide +kernel
theorem dX4_run_10 : decode cX4_run 10 = .ok (.iload_n 1, 1) := by decide +kernel
theorem dX4_run_11 : decode cX4_run 11 = .ok (.iadd, 1) := by decide +kernel
theorem dX4_run_12 : decode cX4_run 12 = .ok (.istore 5, 2) := by decide +kernel
theorem dX4_run_14 : decode cX4_run 14 = .ok (.aload_n 0, 1) := by decide +kernel
theorem dX4_run_15 : decode cX4_run 15 = .ok (.getfield 37, 3) := by decide +kernel
theorem dX4_run_18 : decode cX4_run 18 = .ok (.istore 6, 2) := by decide +kernel
theorem dX4_run_20 : decode cX4_run 20 = .ok (.iload 6, 2) := by decide +kernel
theorem dX4_run_22 : decode cX4_run 22 = .ok (.aload_n 0, 1) := by decide +kernel
theorem dX4_run_23 : decode cX4_run 23 = .ok (.getfield 40, 3) := by decide +kernel
theorem dX4_run_26 : decode cX4_run 26 = .ok (.if_icmp .gt 91, 3) := by decide +kernel
theorem dX4_run_29 : decode cX4_run 29 = .ok (.aload_n 0, 1) := by decide +kernel
theorem dX4_run_30 : decode cX4_run 30 = .ok (.getfield 46, 3) := by decide +kernel
theorem dX4_run_33 : decode cX4_run 33 = .ok (.iload 6, 2) := by decide +kernel
theorem dX4_run_35 : decode cX4_run 35 = .ok (.iload 4, 2) := by decide +kernel
theorem dX4_run_37 : decode cX4_run 37 = .ok (.iastore, 1) := by decide +kernel
theorem dX4_run_38 : decode cX4_run 38 = .ok (.aload_n 0, 1) := by decide +kernel
theorem dX4_run_39 : decode cX4_run 39 = .ok (.getfield 49, 3) := by decide +kernel
theorem dX4_run_42 : decode cX4_run 42 = .ok (.iload 6, 2) := by decide +kernel
theorem dX4_run_44 : decode cX4_run 44 = .ok (.iload 4, 2) := by decide +kernel
theorem dX4_run_46 : decode cX4_run 46 = .ok (.aload_n 0, 1) := by decide +kernel
theorem dX4_run_47 : decode cX4_run 47 = .ok (.getfield 18, 3) := by decide +kernel
theorem dX4_run_50 : decode cX4_run 50 = .ok (.imul, 1) := by decide +kernel
theorem dX4_run_51 : decode cX4_run 51 = .ok (.iastore, 1) := by decide +kernel
theorem dX4_run_52 : decode cX4_run 52 = .ok (.aload_n 0, 1) := by decide +kernel
theorem dX4_run_53 : decode cX4_run 53 = .ok (.iload 6, 2) := by decide +kernel
theorem dX4_run_55 : decode cX4_run 55 = .ok (.iload 6, 2) := by decide +kernel
theorem dX4_run_57 : decode cX4_run 57 = .ok (.iload_n 2, 1) := by decide +kernel
theorem dX4_run_58 : decode cX4_run 58 = .ok (.if_icmp .ne 7, 3) := by decide +kernel
theorem dX4_run_61 : decode cX4_run 61 = .ok (.iload_n 3, 1) := by decide +kernel
theorem dX4_run_62 : decode cX4_run 62 = .ok (.goto 10, 3) := by decide +kernel
theorem dX4_run_65 : decode cX4_run 65 = .ok (.aload_n 0, 1) := by decide +kernel
theorem dX4_run_66 : decode cX4_run 66 = .ok (.getfield 30, 3) := by decide +kernel
theorem dX4_run_69 : decode cX4_run 69 = .ok (.iload 6, 2) := by decide +kernel
theorem dX4_run_71 : decode cX4_run 71 = .ok (.iaload, 1) := by decide +kernel
theorem dX4_run_72 : decode cX4_run 72 = .ok (.invokevirtual 112, 3) := by decide +kernel
theorem dX4_run_75 : decode cX4_run 75 = .ok (.aload_n 0, 1) := by decide +kernel
theorem dX4_run_76 : decode cX4_run 76 = .ok (.getfield 61, 3) := by decide +kernel
theorem dX4_run_79 : decode cX4_run 79 = .ok (.iload 6, 2) := by decide +kernel
theorem dX4_run_81 : decode cX4_run 81 = .ok (.iload 5, 2) := by decide +kernel
theorem dX4_run_83 : decode cX4_run 83 = .ok (.iastore, 1) := by decide +kernel
theorem dX4_run_84 : decode cX4_run 84 = .ok (.aload_n 0, 1) := by decide +kernel
theorem dX4_run_85 : decode cX4_run 85 = .ok (.iload 6, 2) := by decide +kernel
theorem dX4_run_87 : decode cX4_run 87 = .ok (.invokevirtual 116, 3) := by decide +kernel
theorem dX4_run_90 : decode cX4_run 90 = .ok (.iload 4, 2) := by decide +kernel
theorem dX4_run_92 : decode cX4_run 92 = .ok (.aload_n 0, 1) := by decide +kernel
theorem dX4_run_93 : decode cX4_run 93 = .ok (.getfield 52, 3) := by decide +kernel
theorem dX4_run_96 : decode cX4_run 96 = .ok (.iload 6, 2) := by decide +kernel
theorem dX4_run_98 : decode cX4_run 98 = .ok (.iaload, 1) := by decide +kernel
theorem dX4_run_99 : decode cX4_run 99 = .ok (.isub, 1) := by decide +kernel
theorem dX4_run_100 : decode cX4_run 100 = .ok (.istore 4, 2) := by decide +kernel
theorem dX4_run_102 : decode cX4_run 102 = .ok (.aload_n 0, 1) := by decide +kernel
theorem dX4_run_103 : decode cX4_run 103 = .ok (.getfield 61, 3) := by decide +kernel
theorem dX4_run_106 : decode cX4_run 106 = .ok (.iload 6, 2) := by decide +kernel
theorem dX4_run_108 : decode cX4_run 108 = .ok (.iaload, 1) := by decide +kernel
theorem dX4_run_109 : decode cX4_run 109 = .ok (.istore 5, 2) := by decide +kernel
theorem dX4_run_111 : decode cX4_run 111 = .ok (.iinc 6 1, 3) := by decide +kernel
theorem dX4_run_114 : decode cX4_run 114 = .ok (.goto (-94), 3) := by decide +kernel
theorem dX4_run_117 : decode cX4_run 117 = .ok (.return_, 1) := by decide +kernel
abbrev rX4_run : Room := { frames := 2, cells := 0, slots := 0, locals := 43 }
theorem cal_X4_run : CalOk yX4_run cX4_run 7 none 3 := ⟨wm_3_223, wm_1_5, by decide, by decide, by decide +kernel⟩
def f_X4_run_72 (r20 : Nat → Int32 → Int32 → Int32 → Int32 → Int32 → Mm → Option (Unit × Mm)) (x0 : Nat) (x2 : Int32) (x3 : Int32) (x4 : Int32) (x5 : Int32) (x6 : Int32) (y0 : Int32) (y1 : Int32) (y2 : Nat) (M : Mm) : Option (Unit × Mm) :=
  ck (gK M y2 = 4) (bd (f_X4_setCost y2 y1 y0 M) fun _ M1 =>
  ck (gK M1 x0 = 4) (bR (gR M1 x0 16) fun q2 => ck (gK M1 q2 = 10 ∧ inb x6 (gN M1 q2)) (nm (sI M1 q2 (x6).toNatClampNeg x5) fun M3 =>
  ck (gK M3 x0 = 4) (bd (f_X4_setDue x0 x6 M3) fun _ M4 =>
  ck (gK M4 x0 = 4) (bR (gR M4 x0 13) fun q5 => ck (gK M4 q5 = 10 ∧ inb x6 (gN M4 q5)) (nm (x4 - (gI M4 q5 (x6).toNatClampNeg)) fun v6 =>
  ck (gK M4 x0 = 4) (bR (gR M4 x0 16) fun q7 => ck (gK M4 q7 = 10 ∧ inb x6 (gN M4 q7)) (nm (gI M4 q7 (x6).toNatClampNeg) fun v8 =>
  r20 x0 x2 x3 v6 v8 (x6 + (1 : Int32)) M4))))))))
set_option maxRecDepth 20000 in
set_option maxHeartbeats 4000000 in
theorem s_X4_run_72 {z : Zt} {K : Unit → Mm → Prop} (hz : Good z RX4 cX4_run 7 rX4_run none) (hq : Ret z zU K) {r20 : Nat → Int32 → Int32 → Int32 → Int32 → Int32 → Mm → Option (Unit × Mm)} (H20 : ∀ (x0 : Nat) (x2 : Int32) (x3 : Int32) (x4 : Int32) (x5 : Int32) (x6 : Int32) (M : Mm), Sim z 20 [(0, .ref x0), (2, .int x2), (3, .int x3), (4, .int x4), (5, .int x5), (6, .int x6)] [] M 0 0 (r20 x0 x2 x3 x4 x5 x6 M) K) : ∀ (x0 : Nat) (x2 : Int32) (x3 : Int32) (x4 : Int32) (x5 : Int32) (x6 : Int32) (y0 : Int32) (y1 : Int32) (y2 : Nat) (M : Mm), Sim z 72 [(0, .ref x0), (2, .int x2), (3, .int x3), (4, .int x4), (5, .int x5), (6, .int x6)] [.int y0, .int y1, .ref y2] M 0 0 (f_X4_run_72 r20 x0 x2 x3 x4 x5 x6 y0 y1 y2 M) K := by
  intro x0 x2 x3 x4 x5 x6 y0 y1 y2 M
  unfold f_X4_run_72
  refine r_callVv (As := fun _ => [.int y1, .int y0]) cl4 hz (fun _ _ h => t_X4_setCost _ _ _ _ _ _ h) cal_X4_setCost dX4_run_72 wm_3_224 wm_3_226 wm_p_32 rfl rfl (Nat.le_of_ble_eq_true rfl) ⟨(Nat.le_of_ble_eq_true rfl), (Nat.le_of_ble_eq_true rfl)⟩ ⟨(Nat.le_of_ble_eq_true rfl), (Nat.le_of_ble_eq_true rfl)⟩ (fun _ M1 => ?_)
  refine r_aload_n hz dX4_run_75 0 rfl ?_
  refine r_getR (j := 16) cl4 hz dX4_run_76 (by decide) wm_2_20 rfl (fun q2 => ?_)
  refine r_iload hz dX4_run_79 5 rfl ?_
  refine r_iload hz dX4_run_81 4 rfl ?_
  refine r_iast hz dX4_run_83 ?_
  refine r_nmM (fun M3 => ?_)
  refine r_aload_n hz dX4_run_84 0 rfl ?_
  refine r_iload hz dX4_run_85 5 rfl ?_
  refine r_callVv (As := fun _ => [.int x6]) cl4 hz (fun _ _ h => t_X4_setDue _ _ _ _ _ h) cal_X4_setDue dX4_run_87 wm_3_228 wm_3_230 wm_p_33 rfl rfl (Nat.le_of_ble_eq_true rfl) ⟨(Nat.le_of_ble_eq_true rfl), (Nat.le_of_ble_eq_true rfl)⟩ ⟨(Nat.le_of_ble_eq_true rfl), (Nat.le_of_ble_eq_true rfl)⟩ (fun _ M4 => ?_)
  refine r_iload hz dX4_run_90 3 rfl ?_
  refine r_aload_n hz dX4_run_92 0 rfl ?_
  refine r_getR (j := 13) cl4 hz dX4_run_93 (by decide) wm_2_14 rfl (fun q5 => ?_)
  refine r_iload hz dX4_run_96 5 rfl ?_
  refine r_iald hz dX4_run_98 ?_
  refine r_isub hz dX4_run_99 ?_
  refine r_nmi (fun v6 => ?_)
  refine r_istore (lv' := [(4, .int v6), (0, .ref x0), (2, .int x2), (3, .int x3), (5, .int x5), (6, .int x6)]) hz dX4_run_100 (by decide) rfl ?_
  refine r_aload_n hz dX4_run_102 1 rfl ?_
  refine r_getR (j := 16) cl4 hz dX4_run_103 (by decide) wm_2_20 rfl (fun q7 => ?_)
  refine r_iload hz dX4_run_106 5 rfl ?_
  refine r_iald hz dX4_run_108 ?_
  refine r_nmi (fun v8 => ?_)
  refine r_istore (lv' := [(5, .int v8), (4, .int v6), (0, .ref x0), (2, .int x2), (3, .int x3), (6, .int x6)]) hz dX4_run_109 (by decide) rfl ?_
  refine r_iinc (v := (x6 + (1 : Int32))) (lv' := [(6, .int (x6 + (1 : Int32))), (5, .int v8), (4, .int v6), (0, .ref x0), (2, .int x2), (3, .int x3)]) hz dX4_run_111 5 rfl rfl (by decide) rfl ?_
  refine r_goto (tgt := 20) hz dX4_run_114 rfl ?_
  refine r_sub [3, 4, 5, 2, 1, 0] rfl ?_
  exact H20 x0 x2 x3 v6 v8 (x6 + (1 : Int32)) M4
def f_X4_run_20 : Nat → Nat → Int32 → Int32 → Int32 → Int32 → Int32 → Mm → Option (Unit × Mm)
  | 0, _, _, _, _, _, _, _ => none
  | n + 1, x0, x2, x3, x4, x5, x6, M =>
    ck (gK M x0 = 4) ((if (gI M x0 9) < x6 then
      some ((), M)
    else
      ck (gK M x0 = 4) (bR (gR M x0 11) fun q1 => ck (gK M q1 = 10 ∧ inb x6 (gN M q1)) (nm (sI M q1 (x6).toNatClampNeg x4) fun M2 =>
      ck (gK M2 x0 = 4) (bR (gR M2 x0 12) fun q3 => ck (gK M2 x0 = 4) (ck (gK M2 q3 = 10 ∧ inb x6 (gN M2 q3)) (nm (sI M2 q3 (x6).toNatClampNeg (x4 * (gI M2 x0 2))) fun M4 =>
      (if ¬ x6 = x2 then
        ck (gK M4 x0 = 4) (bR (gR M4 x0 6) fun q5 => ck (gK M4 q5 = 10 ∧ inb x6 (gN M4 q5)) (f_X4_run_72 (f_X4_run_20 n) x0 x2 x3 x4 x5 x6 (gI M4 q5 (x6).toNatClampNeg) x6 x0 M4))
      else
        f_X4_run_72 (f_X4_run_20 n) x0 x2 x3 x4 x5 x6 x3 x6 x0 M4))))))))
set_option maxRecDepth 20000 in
set_option maxHeartbeats 4000000 in
theorem s_X4_run_20 {z : Zt} {K : Unit → Mm → Prop} (hz : Good z RX4 cX4_run 7 rX4_run none) (hq : Ret z zU K) : ∀ (n : Nat) (x0 : Nat) (x2 : Int32) (x3 : Int32) (x4 : Int32) (x5 : Int32) (x6 : Int32) (M : Mm), Sim z 20 [(0, .ref x0), (2, .int x2), (3, .int x3), (4, .int x4), (5, .int x5), (6, .int x6)] [] M 0 0 (f_X4_run_20 n x0 x2 x3 x4 x5 x6 M) K := by
  intro n
  induction n with
  | zero => exact fun _ _ _ _ _ _ _ => r_none
  | succ n ih =>
    intro x0 x2 x3 x4 x5 x6 M
    unfold f_X4_run_20
    refine r_iload hz dX4_run_20 5 rfl ?_
    refine r_aload_n hz dX4_run_22 0 rfl ?_
    refine r_getI (j := 9) cl4 hz dX4_run_23 (by decide) wm_2_4 rfl ?_
    refine r_icmp_gt (tgt := 117) hz dX4_run_26 rfl ?_ ?_
    · exact r_vret hz hq dX4_run_117 (Nat.le_of_ble_eq_true rfl) (Nat.le_of_ble_eq_true rfl)
    · refine r_aload_n hz dX4_run_29 0 rfl ?_
      refine r_getR (j := 11) cl4 hz dX4_run_30 (by decide) wm_2_10 rfl (fun q1 => ?_)
      refine r_iload hz dX4_run_33 5 rfl ?_
      refine r_iload hz dX4_run_35 3 rfl ?_
      refine r_iast hz dX4_run_37 ?_
      refine r_nmM (fun M2 => ?_)
      refine r_aload_n hz dX4_run_38 0 rfl ?_
      refine r_getR (j := 12) cl4 hz dX4_run_39 (by decide) wm_2_12 rfl (fun q3 => ?_)
      refine r_iload hz dX4_run_42 5 rfl ?_
      refine r_iload hz dX4_run_44 3 rfl ?_
      refine r_aload_n hz dX4_run_46 0 rfl ?_
      refine r_getI (j := 2) cl4 hz dX4_run_47 (by decide) wm_1_235 rfl ?_
      refine r_imul hz dX4_run_50 ?_
      refine r_iast hz dX4_run_51 ?_
      refine r_nmM (fun M4 => ?_)
      refine r_aload_n hz dX4_run_52 0 rfl ?_
      refine r_iload hz dX4_run_53 5 rfl ?_
      refine r_iload hz dX4_run_55 5 rfl ?_
      refine r_iload_n hz dX4_run_57 1 rfl ?_
      refine r_icmp_ne (tgt := 65) hz dX4_run_58 rfl ?_ ?_
      · refine r_aload_n hz dX4_run_65 0 rfl ?_
        refine r_getR (j := 6) cl4 hz dX4_run_66 (by decide) wm_1_239 rfl (fun q5 => ?_)
        refine r_iload hz dX4_run_69 5 rfl ?_
        refine r_iald hz dX4_run_71 ?_
        exact s_X4_run_72 hz hq ih x0 x2 x3 x4 x5 x6 (gI M4 q5 (x6).toNatClampNeg) x6 x0 M4
      · refine r_iload_n hz dX4_run_61 2 rfl ?_
        refine r_goto (tgt := 72) hz dX4_run_62 rfl ?_
        exact s_X4_run_72 hz hq ih x0 x2 x3 x4 x5 x6 x3 x6 x0 M4
def f_X4_run (p0 : Nat) (p1 : Int32) (p2 : Int32) (p3 : Int32) (M : Mm) : Option (Unit × Mm) :=
  ck (gK M p0 = 4) (nm (gI M p0 10) fun v1 =>
  ck (gK M p0 = 4) (nm ((gI M p0 5) + p1) fun v2 =>
  ck (gK M p0 = 4) (nm (gI M p0 8) fun v3 =>
  f_X4_run_20 FU p0 p2 p3 v1 v2 v3 M)))
set_option maxRecDepth 20000 in
set_option maxHeartbeats 4000000 in
theorem t_X4_run (p0 : Nat) (p1 : Int32) (p2 : Int32) (p3 : Int32) (M : Mm) (x : Unit) (M' : Mm) (h : f_X4_run p0 p1 p2 p3 M = some (x, M')) : Ctr yX4_run cX4_run 7 none rX4_run (fun _ => [.ref p0, .int p1, .int p2, .int p3]) M (zU x) M' := by
  refine ctr_of (plainFor_of_name (by decide)) (fun _ => Nat.le_of_ble_eq_true rfl) (fun z hz hin hq => ?_)
  have key : Sim z 0 [(0, .ref p0), (1, .int p1), (2, .int p2), (3, .int p3)] [] M 0 0 (f_X4_run p0 p1 p2 p3 M) (fun a b => a = x ∧ b = M') := by
    have hq : Ret z zU (fun a b => a = x ∧ b = M') := fun a b e => by rw [e.1, e.2]; exact hq
    unfold f_X4_run
    refine r_aload_n hz dX4_run_0 0 rfl ?_
    refine r_getI (j := 10) cl4 hz dX4_run_1 (by decide) wm_2_7 rfl ?_
    refine r_nmi (fun v1 => ?_)
    refine r_istore (lv' := [(4, .int v1), (0, .ref p0), (1, .int p1), (2, .int p2), (3, .int p3)]) hz dX4_run_4 (by decide) rfl ?_
    refine r_aload_n hz dX4_run_6 1 rfl ?_
    refine r_getI (j := 5) cl4 hz dX4_run_7 (by decide) wm_1_238 rfl ?_
    refine r_iload_n hz dX4_run_10 2 rfl ?_
    refine r_iadd hz dX4_run_11 ?_
    refine r_nmi (fun v2 => ?_)
    refine r_istore (lv' := [(5, .int v2), (4, .int v1), (0, .ref p0), (1, .int p1), (2, .int p2), (3, .int p3)]) hz dX4_run_12 (by decide) rfl ?_
    refine r_aload_n hz dX4_run_14 2 rfl ?_
    refine r_getI (j := 8) cl4 hz dX4_run_15 (by decide) wm_2_1 rfl ?_
    refine r_nmi (fun v3 => ?_)
    refine r_istore (lv' := [(6, .int v3), (5, .int v2), (4, .int v1), (0, .ref p0), (1, .int p1), (2, .int p2), (3, .int p3)]) hz dX4_run_18 (by decide) rfl ?_
    refine r_sub [3, 5, 6, 2, 1, 0] rfl ?_
    exact s_X4_run_20 hz hq FU p0 p2 p3 v1 v2 v3 M
  exact key x M' h ⟨rfl, rfl⟩
theorem dX4_foresee_0 : decode cX4_foresee 0 = .ok (.aload_n 0, 1) := by decide +kernel
theorem dX4_foresee_1 : decode cX4_foresee 1 = .ok (.aload_n 1, 1) := by decide +kernel
theorem dX4_foresee_2 : decode cX4_foresee 2 = .ok (.aload_n 2, 1) := by decide +kernel
theorem dX4_foresee_3 : decode cX4_foresee 3 = .ok (.iload_n 3, 1) := by decide +kernel
theorem dX4_foresee_4 : decode cX4_foresee 4 = .ok (.invokevirtual 64, 3) := by decide +kernel
theorem dX4_foresee_7 : decode cX4_foresee 7 = .ok (.aload_n 0, 1) := by decide +kernel
theorem dX4_foresee_8 : decode cX4_foresee 8 = .ok (.iconst 0, 1) := by decide +kernel
theorem dX4_foresee_9 : decode cX4_foresee 9 = .ok (.iconst 0, 1) := by decide +kernel
theorem dX4_foresee_10 : decode cX4_foresee 10 = .ok (.iconst 0, 1) := by decide +kernel
theorem dX4_foresee_11 : decode cX4_foresee 11 = .ok (.invokevirtual 68, 3) := by decide +kernel
theorem dX4_foresee_14 : decode cX4_foresee 14 = .ok (.return_, 1) := by decide +kernel
abbrev rX4_foresee : Room := { frames := 3, cells := 0, slots := 0, locals := 69 }
theorem cal_X4_foresee : CalOk yX4_foresee cX4_foresee 4 none 3 := ⟨wm_3_211, wm_1_5, by decide, by decide, by decide +kernel⟩
def f_X4_foresee (p0 : Nat) (p1 : Nat) (p2 : Nat) (p3 : Int32) (M : Mm) : Option (Unit × Mm) :=
  ck (gK M p0 = 4) (bd (f_X4_open p0 p1 p2 p3 M) fun _ M1 =>
  ck (gK M1 p0 = 4) (bd (f_X4_run p0 (0 : Int32) (0 : Int32) (0 : Int32) M1) fun _ M2 =>
  some ((), M2)))
set_option maxRecDepth 20000 in
set_option maxHeartbeats 4000000 in
theorem t_X4_foresee (p0 : Nat) (p1 : Nat) (p2 : Nat) (p3 : Int32) (M : Mm) (x : Unit) (M' : Mm) (h : f_X4_foresee p0 p1 p2 p3 M = some (x, M')) : Ctr yX4_foresee cX4_foresee 4 none rX4_foresee (fun _ => [.ref p0, .ref p1, .ref p2, .int p3]) M (zU x) M' := by
  refine ctr_of (plainFor_of_name (by decide)) (fun _ => Nat.le_of_ble_eq_true rfl) (fun z hz hin hq => ?_)
  have key : Sim z 0 [(0, .ref p0), (1, .ref p1), (2, .ref p2), (3, .int p3)] [] M 0 0 (f_X4_foresee p0 p1 p2 p3 M) (fun a b => a = x ∧ b = M') := by
    have hq : Ret z zU (fun a b => a = x ∧ b = M') := fun a b e => by rw [e.1, e.2]; exact hq
    unfold f_X4_foresee
    refine r_aload_n hz dX4_foresee_0 0 rfl ?_
    refine r_aload_n hz dX4_foresee_1 1 rfl ?_
    refine r_aload_n hz dX4_foresee_2 2 rfl ?_
    refine r_iload_n hz dX4_foresee_3 3 rfl ?_
    refine r_callVv (As := fun _ => [.ref p1, .ref p2, .int p3]) cl4 hz (fun _ _ h => t_X4_open _ _ _ _ _ _ _ h) cal_X4_open dX4_foresee_4 wm_3_212 wm_3_213 wm_3_214 rfl rfl (Nat.le_of_ble_eq_true rfl) ⟨(Nat.le_of_ble_eq_true rfl), (Nat.le_of_ble_eq_true rfl)⟩ ⟨(Nat.le_of_ble_eq_true rfl), (Nat.le_of_ble_eq_true rfl)⟩ (fun _ M1 => ?_)
    refine r_aload_n hz dX4_foresee_7 0 rfl ?_
    refine r_iconst (v := 0) hz dX4_foresee_8 rfl ?_
    refine r_iconst (v := 0) hz dX4_foresee_9 rfl ?_
    refine r_iconst (v := 0) hz dX4_foresee_10 rfl ?_
    refine r_callVv (As := fun _ => [.int (0 : Int32), .int (0 : Int32), .int (0 : Int32)]) cl4 hz (fun _ _ h => t_X4_run _ _ _ _ _ _ _ h) cal_X4_run dX4_foresee_11 wm_3_220 wm_3_221 wm_3_222 rfl rfl (Nat.le_of_ble_eq_true rfl) ⟨(Nat.le_of_ble_eq_true rfl), (Nat.le_of_ble_eq_true rfl)⟩ ⟨(Nat.le_of_ble_eq_true rfl), (Nat.le_of_ble_eq_true rfl)⟩ (fun _ M2 => ?_)
    exact r_vret hz hq dX4_foresee_14 (Nat.le_of_ble_eq_true rfl) (Nat.le_of_ble_eq_true rfl)
  exact key x M' h ⟨rfl, rfl⟩
theorem dX4_leftBehind_0 : decode cX4_leftBehind 0 = .ok (.aload_n 0, 1) := by decide +kernel
theorem dX4_leftBehind_1 : decode cX4_leftBehind 1 = .ok (.getfield 46, 3) := by decide +kernel
theorem dX4_leftBehind_4 : decode cX4_leftBehind 4 = .ok (.iload_n 1, 1) := by decide +kernel
theorem dX4_leftBehind_5 : decode cX4_leftBehind 5 = .ok (.iaload, 1) := by decide +kernel
theorem dX4_leftBehind_6 : decode cX4_leftBehind 6 = .ok (.aload_n 0, 1) := by decide +kernel
theorem dX4_leftBehind_7 : decode cX4_leftBehind 7 = .ok (.getfield 52, 3) := by decide +kernel
theorem dX4_leftBehind_10 : decode cX4_leftBehind 10 = .ok (.iload_n 1, 1) := by decide +kernel
theorem dX4_leftBehind_11 : decode cX4_leftBehind 11 = .ok (.iaload, 1) := by decide +kernel
theorem dX4_leftBehind_12 : decode cX4_leftBehind 12 = .ok (.isub, 1) := by decide +kernel
theorem dX4_leftBehind_13 : decode cX4_leftBehind 13 = .ok (.ireturn, 1) := by decide +kernel
abbrev rX4_leftBehind : Room := { frames := 0, cells := 0, slots := 0, locals := 0 }
theorem cal_X4_leftBehind : CalOk yX4_leftBehind cX4_leftBehind 2 (some .int) 1 := ⟨wm_4_125, wm_1_5, by decide, by decide, by decide +kernel⟩
def f_X4_leftBehind (p0 : Nat) (p1 : Int32) (M : Mm) : Option (Int32 × Mm) :=
  ck (gK M p0 = 4) (bR (gR M p0 11) fun q1 => ck (gK M q1 = 10 ∧ inb p1 (gN M q1)) (ck (gK M p0 = 4) (bR (gR M p0 13) fun q2 => ck (gK M q2 = 10 ∧ inb p1 (gN M q2)) (some (((gI M q1 (p1).toNatClampNeg) - (gI M q2 (p1).toNatClampNeg)), M)))))
set_option maxRecDepth 20000 in
set_option maxHeartbeats 4000000 in
theorem t_X4_leftBehind (p0 : Nat) (p1 : Int32) (M : Mm) (x : Int32) (M' : Mm) (h : f_X4_leftBehind p0 p1 M = some (x, M')) : Ctr yX4_leftBehind cX4_leftBehind 2 (some .int) rX4_leftBehind (fun _ => [.ref p0, .int p1]) M (zI x) M' := by
  refine ctr_of (plainFor_of_name (by decide)) (fun _ => Nat.le_of_ble_eq_true rfl) (fun z hz hin hq => ?_)
  have key : Sim z 0 [(0, .ref p0), (1, .int p1)] [] M 0 0 (f_X4_leftBehind p0 p1 M) (fun a b => a = x ∧ b = M') := by
    have hq : Ret z zI (fun a b => a = x ∧ b = M') := fun a b e => by rw [e.1, e.2]; exact hq
    unfold f_X4_leftBehind
    refine r_aload_n hz dX4_leftBehind_0 0 rfl ?_
    refine r_getR (j := 11) cl4 hz dX4_leftBehind_1 (by decide) wm_2_10 rfl (fun q1 => ?_)
    refine r_iload_n hz dX4_leftBehind_4 1 rfl ?_
    refine r_iald hz dX4_leftBehind_5 ?_
    refine r_aload_n hz dX4_leftBehind_6 0 rfl ?_
    refine r_getR (j := 13) cl4 hz dX4_leftBehind_7 (by decide) wm_2_14 rfl (fun q2 => ?_)
    refine r_iload_n hz dX4_leftBehind_10 1 rfl ?_
    refine r_iald hz dX4_leftBehind_11 ?_
    refine r_isub hz dX4_leftBehind_12 ?_
    exact r_iret hz hq dX4_leftBehind_13 (Nat.le_of_ble_eq_true rfl) (Nat.le_of_ble_eq_true rfl)
  exact key x M' h ⟨rfl, rfl⟩
theorem dX4_untilOtherwise_0 : decode cX4_untilOtherwise 0 = .ok (.ldc 128, 2) := by decide +kernel
theorem dX4_untilOtherwise_2 : decode cX4_untilOtherwise 2 = .ok (.istore_n 2, 1) := by decide +kernel
theorem dX4_untilOtherwise_3 : decode cX4_untilOtherwise 3 = .ok (.aload_n 0, 1) := by decide +kernel
theorem dX4_untilOtherwise_4 : decode cX4_untilOtherwise 4 = .ok (.getfield 37, 3) := by decide +kernel
theorem dX4_untilOtherwise_7 : decode cX4_untilOtherwise 7 = .ok (.istore_n 3, 1) := by decide +kernel
theorem dX4_untilOtherwise_8 : decode cX4_untilOtherwise 8 = .ok (.iload_n 3, 1) := by decide +kernel
theorem dX4_untilOtherwise_9 : decode cX4_untilOtherwise 9 = .ok (.iload_n 1, 1) := by decide +kernel
theorem dX4_untilOtherwise_10 : decode cX4_untilOtherwise 10 = .ok (.if_icmp .gt 27, 3) := by decide +kernel
theorem dX4_untilOtherwise_13 : decode cX4_untilOtherwise 13 = .ok (.iload_n 2, 1) := by decide +kernel
theorem dX4_untilOtherwise_14 : decode cX4_untilOtherwise 14 = .ok (.aload_n 0, 1) := by decide +kernel
theorem dX4_untilOtherwise_15 : decode cX4_untilOtherwise 15 = .ok (.getfield 55, 3) := by decide +kernel
theorem dX4_untilOtherwise_18 : decode cX4_untilOtherwise 18 = .ok (.iload_n 3, 1) := by decide +kernel
theorem dX4_untilOtherwise_19 : decode cX4_untilOtherwise 19 = .ok (.iaload, 1) := by decide +kernel
theorem dX4_untilOtherwise_20 : decode cX4_untilOtherwise 20 = .ok (.aload_n 0, 1) := by decide +kernel
theorem dX4_untilOtherwise_21 : decode cX4_untilOtherwise 21 = .ok (.getfield 61, 3) := by decide +kernel
theorem dX4_untilOtherwise_24 : decode cX4_untilOtherwise 24 = .ok (.iload_n 3, 1) := by decide +kernel
theorem dX4_untilOtherwise_25 : decode cX4_untilOtherwise 25 = .ok (.iaload, 1) := by decide +kernel
theorem dX4_untilOtherwise_26 : decode cX4_untilOtherwise 26 = .ok (.isub, 1) := by decide +kernel
theorem dX4_untilOtherwise_27 : decode cX4_untilOtherwise 27 = .ok (.invokestatic 125, 3) := by decide +kernel
theorem dX4_untilOtherwise_30 : decode cX4_untilOtherwise 30 = .ok (.istore_n 2, 1) := by decide +kernel
theorem dX4_untilOtherwise_31 : decode cX4_untilOtherwise 31 = .ok (.iinc 3 1, 3) := by decide +kernel
theorem dX4_untilOtherwise_34 : decode cX4_untilOtherwise 34 = .ok (.goto (-26), 3) := by decide +kernel
theorem dX4_untilOtherwise_37 : decode cX4_untilOtherwise 37 = .ok (.iload_n 2, 1) := by decide +kernel
theorem dX4_untilOtherwise_38 : decode cX4_untilOtherwise 38 = .ok (.ireturn, 1) := by decide +kernel
abbrev rX4_untilOtherwise : Room := { frames := 1, cells := 0, slots := 0, locals := 21 }
theorem cal_X4_untilOtherwise : CalOk yX4_untilOtherwise cX4_untilOtherwise 4 (some .int) 1 := ⟨wm_4_163, wm_1_5, by decide, by decide, by decide +kernel⟩
def f_X4_untilOtherwise_8 : Nat → Nat → Int32 → Int32 → Int32 → Mm → Option (Int32 × Mm)
  | 0, _, _, _, _, _ => none
  | n + 1, x0, x1, x2, x3, M =>
    (if x1 < x3 then
      some (x2, M)
    else
      ck (gK M x0 = 4) (bR (gR M x0 14) fun q1 => ck (gK M q1 = 10 ∧ inb x3 (gN M q1)) (ck (gK M x0 = 4) (bR (gR M x0 16) fun q2 => ck (gK M q2 = 10 ∧ inb x3 (gN M q2)) (bd (f_J9_min_7cf53 x2 ((gI M q1 (x3).toNatClampNeg) - (gI M q2 (x3).toNatClampNeg)) M) fun v4 M3 =>
      f_X4_untilOtherwise_8 n x0 x1 v4 (x3 + (1 : Int32)) M3)))))
set_option maxRecDepth 20000 in
set_option maxHeartbeats 4000000 in
theorem s_X4_untilOtherwise_8 {z : Zt} {K : Int32 → Mm → Prop} (hz : Good z RX4 cX4_untilOtherwise 4 rX4_untilOtherwise (some .int)) (hq : Ret z zI K) : ∀ (n : Nat) (x0 : Nat) (x1 : Int32) (x2 : Int32) (x3 : Int32) (M : Mm), Sim z 8 [(0, .ref x0), (1, .int x1), (2, .int x2), (3, .int x3)] [] M 0 0 (f_X4_untilOtherwise_8 n x0 x1 x2 x3 M) K := by
  intro n
  induction n with
  | zero => exact fun _ _ _ _ _ => r_none
  | succ n ih =>
    intro x0 x1 x2 x3 M
    unfold f_X4_untilOtherwise_8
    refine r_iload_n hz dX4_untilOtherwise_8 3 rfl ?_
    refine r_iload_n hz dX4_untilOtherwise_9 1 rfl ?_
    refine r_icmp_gt (tgt := 37) hz dX4_untilOtherwise_10 rfl ?_ ?_
    · refine r_iload_n hz dX4_untilOtherwise_37 2 rfl ?_
      exact r_iret hz hq dX4_untilOtherwise_38 (Nat.le_of_ble_eq_true rfl) (Nat.le_of_ble_eq_true rfl)
    · refine r_iload_n hz dX4_untilOtherwise_13 2 rfl ?_
      refine r_aload_n hz dX4_untilOtherwise_14 0 rfl ?_
      refine r_getR (j := 14) cl4 hz dX4_untilOtherwise_15 (by decide) wm_2_16 rfl (fun q1 => ?_)
      refine r_iload_n hz dX4_untilOtherwise_18 3 rfl ?_
      refine r_iald hz dX4_untilOtherwise_19 ?_
      refine r_aload_n hz dX4_untilOtherwise_20 0 rfl ?_
      refine r_getR (j := 16) cl4 hz dX4_untilOtherwise_21 (by decide) wm_2_20 rfl (fun q2 => ?_)
      refine r_iload_n hz dX4_untilOtherwise_24 3 rfl ?_
      refine r_iald hz dX4_untilOtherwise_25 ?_
      refine r_isub hz dX4_untilOtherwise_26 ?_
      refine r_callSi (As := fun _ => [.int x2, .int ((gI M q1 (x3).toNatClampNeg) - (gI M q2 (x3).toNatClampNeg))]) hz (fun _ _ h => t_J9_min_7cf53 _ _ _ _ _ h) cal_J9_min_7cf53 dX4_untilOtherwise_27 wm_3_235 wm_2_165 rfl rfl (Nat.le_of_ble_eq_true rfl) ⟨(Nat.le_of_ble_eq_true rfl), (Nat.le_of_ble_eq_true rfl)⟩ ⟨(Nat.le_of_ble_eq_true rfl), (Nat.le_of_ble_eq_true rfl)⟩ (fun v4 M3 => ?_)
      refine r_istore_n (lv' := [(2, .int v4), (0, .ref x0), (1, .int x1), (3, .int x3)]) hz dX4_untilOtherwise_30 (by decide) rfl ?_
      refine r_iinc (v := (x3 + (1 : Int32))) (lv' := [(3, .int (x3 + (1 : Int32))), (2, .int v4), (0, .ref x0), (1, .int x1)]) hz dX4_untilOtherwise_31 3 rfl rfl (by decide) rfl ?_
      refine r_goto (tgt := 8) hz dX4_untilOtherwise_34 rfl ?_
      refine r_sub [2, 3, 1, 0] rfl ?_
      exact ih x0 x1 v4 (x3 + (1 : Int32)) M3
def f_X4_untilOtherwise (p0 : Nat) (p1 : Int32) (M : Mm) : Option (Int32 × Mm) :=
  ck (gK M p0 = 4) (nm (gI M p0 8) fun v1 =>
  f_X4_untilOtherwise_8 FU p0 p1 (99999 : Int32) v1 M)
set_option maxRecDepth 20000 in
set_option maxHeartbeats 4000000 in
theorem t_X4_untilOtherwise (p0 : Nat) (p1 : Int32) (M : Mm) (x : Int32) (M' : Mm) (h : f_X4_untilOtherwise p0 p1 M = some (x, M')) : Ctr yX4_untilOtherwise cX4_untilOtherwise 4 (some .int) rX4_untilOtherwise (fun _ => [.ref p0, .int p1]) M (zI x) M' := by
  refine ctr_of (plainFor_of_name (by decide)) (fun _ => Nat.le_of_ble_eq_true rfl) (fun z hz hin hq => ?_)
  have key : Sim z 0 [(0, .ref p0), (1, .int p1)] [] M 0 0 (f_X4_untilOtherwise p0 p1 M) (fun a b => a = x ∧ b = M') := by
    have hq : Ret z zI (fun a b => a = x ∧ b = M') := fun a b e => by rw [e.1, e.2]; exact hq
    unfold f_X4_untilOtherwise
    refine r_ldc (v := 99999) hz dX4_untilOtherwise_0 wm_4_164 ?_
    refine r_istore_n (lv' := [(2, .int (99999 : Int32)), (0, .ref p0), (1, .int p1)]) hz dX4_untilOtherwise_2 (by decide) rfl ?_
    refine r_aload_n hz dX4_untilOtherwise_3 1 rfl ?_
    refine r_getI (j := 8) cl4 hz dX4_untilOtherwise_4 (by decide) wm_2_1 rfl ?_
    refine r_nmi (fun v1 => ?_)
    refine r_istore_n (lv' := [(3, .int v1), (2, .int (99999 : Int32)), (0, .ref p0), (1, .int p1)]) hz dX4_untilOtherwise_7 (by decide) rfl ?_
    refine r_sub [2, 3, 1, 0] rfl ?_
    exact s_X4_untilOtherwise_8 hz hq FU p0 p1 (99999 : Int32) v1 M
  exact key x M' h ⟨rfl, rfl⟩
