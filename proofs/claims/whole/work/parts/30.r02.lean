theorem dX8_line_0 : decode cX8_line 0 = .ok (.aload_n 0, 1) := by decide +kernel
theorem dX8_line_1 : decode cX8_line 1 = .ok (.getstatic 91, 3) := by decide +kernel
theorem dX8_line_4 : decode cX8_line 4 = .ok (.invokevirtual 94, 3) := by decide +kernel
theorem dX8_line_7 : decode cX8_line 7 = .ok (.ifCond .eq 8, 3) := by decide +kernel
theorem dX8_line_10 : decode cX8_line 10 = .ok (.aload_n 0, 1) := by decide +kernel
theorem dX8_line_11 : decode cX8_line 11 = .ok (.invokevirtual 194, 3) := by decide +kernel
theorem dX8_line_14 : decode cX8_line 14 = .ok (.ireturn, 1) := by decide +kernel
theorem dX8_line_15 : decode cX8_line 15 = .ok (.aload_n 0, 1) := by decide +kernel
theorem dX8_line_16 : decode cX8_line 16 = .ok (.getstatic 122, 3) := by decide +kernel
theorem dX8_line_19 : decode cX8_line 19 = .ok (.invokevirtual 94, 3) := by decide +kernel
theorem dX8_line_22 : decode cX8_line 22 = .ok (.ifCond .eq 8, 3) := by decide +kernel
theorem dX8_line_25 : decode cX8_line 25 = .ok (.aload_n 0, 1) := by decide +kernel
theorem dX8_line_26 : decode cX8_line 26 = .ok (.invokevirtual 197, 3) := by decide +kernel
theorem dX8_line_29 : decode cX8_line 29 = .ok (.ireturn, 1) := by decide +kernel
theorem dX8_line_30 : decode cX8_line 30 = .ok (.aload_n 0, 1) := by decide +kernel
theorem dX8_line_31 : decode cX8_line 31 = .ok (.getstatic 128, 3) := by decide +kernel
theorem dX8_line_34 : decode cX8_line 34 = .ok (.invokevirtual 94, 3) := by decide +kernel
theorem dX8_line_37 : decode cX8_line 37 = .ok (.ifCond .eq 8, 3) := by decide +kernel
theorem dX8_line_40 : decode cX8_line 40 = .ok (.aload_n 0, 1) := by decide +kernel
theorem dX8_line_41 : decode cX8_line 41 = .ok (.invokevirtual 200, 3) := by decide +kernel
theorem dX8_line_44 : decode cX8_line 44 = .ok (.ireturn, 1) := by decide +kernel
theorem dX8_line_45 : decode cX8_line 45 = .ok (.aload_n 0, 1) := by decide +kernel
theorem dX8_line_46 : decode cX8_line 46 = .ok (.getstatic 131, 3) := by decide +kernel
theorem dX8_line_49 : decode cX8_line 49 = .ok (.invokevirtual 94, 3) := by decide +kernel
theorem dX8_line_52 : decode cX8_line 52 = .ok (.ifCond .eq 8, 3) := by decide +kernel
theorem dX8_line_55 : decode cX8_line 55 = .ok (.aload_n 0, 1) := by decide +kernel
theorem dX8_line_56 : decode cX8_line 56 = .ok (.invokevirtual 203, 3) := by decide +kernel
theorem dX8_line_59 : decode cX8_line 59 = .ok (.ireturn, 1) := by decide +kernel
theorem dX8_line_60 : decode cX8_line 60 = .ok (.aload_n 0, 1) := by decide +kernel
theorem dX8_line_61 : decode cX8_line 61 = .ok (.getstatic 134, 3) := by decide +kernel
theorem dX8_line_64 : decode cX8_line 64 = .ok (.invokevirtual 94, 3) := by decide +kernel
theorem dX8_line_67 : decode cX8_line 67 = .ok (.ifCond .eq 10, 3) := by decide +kernel
theorem dX8_line_70 : decode cX8_line 70 = .ok (.aload_n 0, 1) := by decide +kernel
theorem dX8_line_71 : decode cX8_line 71 = .ok (.invokevirtual 206, 3) := by decide +kernel
theorem dX8_line_74 : decode cX8_line 74 = .ok (.goto 8, 3) := by decide +kernel
theorem dX8_line_77 : decode cX8_line 77 = .ok (.aload_n 0, 1) := by decide +kernel
theorem dX8_line_78 : decode cX8_line 78 = .ok (.iconst 1, 1) := by decide +kernel
theorem dX8_line_79 : decode cX8_line 79 = .ok (.invokevirtual 144, 3) := by decide +kernel
theorem dX8_line_82 : decode cX8_line 82 = .ok (.ireturn, 1) := by decide +kernel
abbrev rX8_line : Room := { frames := 5, cells := 0, slots := 0, locals := 115 }
theorem cal_X8_line : CalOk yX8_line cX8_line 1 (some .boolean) 0 := ⟨wm_5_193, wm_1_9, by decide, by decide, by decide +kernel⟩
def f_X8_line (p0 : Nat) (M : Mm) : Option (Int32 × Mm) :=
  ck (gK M p0 = 8) (bd (f_X8_is p0 (408622 : Int32) M) fun v2 M1 =>
  (if v2 = 0 then
    ck (gK M1 p0 = 8) (bd (f_X8_is p0 (284561586 : Int32) M1) fun v4 M3 =>
    (if v4 = 0 then
      ck (gK M3 p0 = 8) (bd (f_X8_is p0 (8892563 : Int32) M3) fun v6 M5 =>
      (if v6 = 0 then
        ck (gK M5 p0 = 8) (bd (f_X8_is p0 (17377093 : Int32) M5) fun v8 M7 =>
        (if v8 = 0 then
          ck (gK M7 p0 = 8) (bd (f_X8_is p0 (17376357 : Int32) M7) fun v10 M9 =>
          (if v10 = 0 then
            ck (gK M9 p0 = 8) (bd (f_X8_bad p0 (1 : Int32) M9) fun v12 M11 =>
            ck (v12 = 0 ∨ v12 = 1) (some (v12, M11)))
          else
            ck (gK M9 p0 = 8) (bd (f_X8_priceLine p0 M9) fun v15 M14 =>
            ck (v15 = 0 ∨ v15 = 1) (some (v15, M14)))))
        else
          ck (gK M7 p0 = 8) (bd (f_X8_prizeLine p0 M7) fun v18 M17 =>
          ck (v18 = 0 ∨ v18 = 1) (some (v18, M17)))))
      else
        ck (gK M5 p0 = 8) (bd (f_X8_holdsLine p0 M5) fun v21 M20 =>
        ck (v21 = 0 ∨ v21 = 1) (some (v21, M20)))))
    else
      ck (gK M3 p0 = 8) (bd (f_X8_holderLine p0 M3) fun v24 M23 =>
      ck (v24 = 0 ∨ v24 = 1) (some (v24, M23)))))
  else
    ck (gK M1 p0 = 8) (bd (f_X8_loanLine p0 M1) fun v27 M26 =>
    ck (v27 = 0 ∨ v27 = 1) (some (v27, M26)))))
set_option maxRecDepth 20000 in
set_option maxHeartbeats 4000000 in
theorem t_X8_line (p0 : Nat) (M : Mm) (x : Int32) (M' : Mm) (h : f_X8_line p0 M = some (x, M')) : Ctr yX8_line cX8_line 1 (some .boolean) rX8_line (fun _ => [.ref p0]) M (zI x) M' := by
  refine ctr_of (plainFor_of_name (by decide)) (fun _ => Nat.le_of_ble_eq_true rfl) (fun z hz hin hq => ?_)
  have key : Sim z 0 [(0, .ref p0)] [] M 0 0 (f_X8_line p0 M) (fun a b => a = x ∧ b = M') := by
    have hq : Ret z zI (fun a b => a = x ∧ b = M') := fun a b e => by rw [e.1, e.2]; exact hq
    unfold f_X8_line
    refine r_aload_n hz dX8_line_0 0 rfl ?_
    refine r_getS (v := 408622) hz dX8_line_1 (List.mem_of_getElem? (i := 0) rfl) wm_5_194 ?_
    refine r_callVi (As := fun _ => [.int (408622 : Int32)]) cl8 hz (fun _ _ h => t_X8_is _ _ _ _ _ h) cal_X8_is dX8_line_4 wm_5_196 wm_5_198 wm_p_47 rfl rfl (Nat.le_of_ble_eq_true rfl) ⟨(Nat.le_of_ble_eq_true rfl), (Nat.le_of_ble_eq_true rfl)⟩ ⟨(Nat.le_of_ble_eq_true rfl), (Nat.le_of_ble_eq_true rfl)⟩ (fun v2 M1 => ?_)
    refine r_if_eq (tgt := 15) hz dX8_line_7 rfl ?_ ?_
    · refine r_aload_n hz dX8_line_15 0 rfl ?_
      refine r_getS (v := 284561586) hz dX8_line_16 (List.mem_of_getElem? (i := 9) rfl) wm_5_236 ?_
      refine r_callVi (As := fun _ => [.int (284561586 : Int32)]) cl8 hz (fun _ _ h => t_X8_is _ _ _ _ _ h) cal_X8_is dX8_line_19 wm_5_196 wm_5_198 wm_p_47 rfl rfl (Nat.le_of_ble_eq_true rfl) ⟨(Nat.le_of_ble_eq_true rfl), (Nat.le_of_ble_eq_true rfl)⟩ ⟨(Nat.le_of_ble_eq_true rfl), (Nat.le_of_ble_eq_true rfl)⟩ (fun v4 M3 => ?_)
      refine r_if_eq (tgt := 30) hz dX8_line_22 rfl ?_ ?_
      · refine r_aload_n hz dX8_line_30 0 rfl ?_
        refine r_getS (v := 8892563) hz dX8_line_31 (List.mem_of_getElem? (i := 11) rfl) wm_6_0 ?_
        refine r_callVi (As := fun _ => [.int (8892563 : Int32)]) cl8 hz (fun _ _ h => t_X8_is _ _ _ _ _ h) cal_X8_is dX8_line_34 wm_5_196 wm_5_198 wm_p_47 rfl rfl (Nat.le_of_ble_eq_true rfl) ⟨(Nat.le_of_ble_eq_true rfl), (Nat.le_of_ble_eq_true rfl)⟩ ⟨(Nat.le_of_ble_eq_true rfl), (Nat.le_of_ble_eq_true rfl)⟩ (fun v6 M5 => ?_)
        refine r_if_eq (tgt := 45) hz dX8_line_37 rfl ?_ ?_
        · refine r_aload_n hz dX8_line_45 0 rfl ?_
          refine r_getS (v := 17377093) hz dX8_line_46 (List.mem_of_getElem? (i := 12) rfl) wm_6_2 ?_
          refine r_callVi (As := fun _ => [.int (17377093 : Int32)]) cl8 hz (fun _ _ h => t_X8_is _ _ _ _ _ h) cal_X8_is dX8_line_49 wm_5_196 wm_5_198 wm_p_47 rfl rfl (Nat.le_of_ble_eq_true rfl) ⟨(Nat.le_of_ble_eq_true rfl), (Nat.le_of_ble_eq_true rfl)⟩ ⟨(Nat.le_of_ble_eq_true rfl), (Nat.le_of_ble_eq_true rfl)⟩ (fun v8 M7 => ?_)
          refine r_if_eq (tgt := 60) hz dX8_line_52 rfl ?_ ?_
          · refine r_aload_n hz dX8_line_60 0 rfl ?_
            refine r_getS (v := 17376357) hz dX8_line_61 (List.mem_of_getElem? (i := 13) rfl) wm_6_4 ?_
            refine r_callVi (As := fun _ => [.int (17376357 : Int32)]) cl8 hz (fun _ _ h => t_X8_is _ _ _ _ _ h) cal_X8_is dX8_line_64 wm_5_196 wm_5_198 wm_p_47 rfl rfl (Nat.le_of_ble_eq_true rfl) ⟨(Nat.le_of_ble_eq_true rfl), (Nat.le_of_ble_eq_true rfl)⟩ ⟨(Nat.le_of_ble_eq_true rfl), (Nat.le_of_ble_eq_true rfl)⟩ (fun v10 M9 => ?_)
            refine r_if_eq (tgt := 77) hz dX8_line_67 rfl ?_ ?_
            · refine r_aload_n hz dX8_line_77 0 rfl ?_
              refine r_iconst (v := 1) hz dX8_line_78 rfl ?_
              refine r_callVi (As := fun _ => [.int (1 : Int32)]) cl8 hz (fun _ _ h => t_X8_bad _ _ _ _ _ h) cal_X8_bad dX8_line_79 wm_5_204 wm_5_206 wm_p_49 rfl rfl (Nat.le_of_ble_eq_true rfl) ⟨(Nat.le_of_ble_eq_true rfl), (Nat.le_of_ble_eq_true rfl)⟩ ⟨(Nat.le_of_ble_eq_true rfl), (Nat.le_of_ble_eq_true rfl)⟩ (fun v12 M11 => ?_)
              refine r_ck (fun h13 => ?_)
              exact r_zret hz hq dX8_line_82 h13 (Nat.le_of_ble_eq_true rfl) (Nat.le_of_ble_eq_true rfl)
            · refine r_aload_n hz dX8_line_70 0 rfl ?_
              refine r_callVi (As := fun _ => []) cl8 hz (fun _ _ h => t_X8_priceLine _ _ _ _ h) cal_X8_priceLine dX8_line_71 wm_6_47 wm_6_49 wm_p_63 rfl rfl (Nat.le_of_ble_eq_true rfl) ⟨(Nat.le_of_ble_eq_true rfl), (Nat.le_of_ble_eq_true rfl)⟩ ⟨(Nat.le_of_ble_eq_true rfl), (Nat.le_of_ble_eq_true rfl)⟩ (fun v15 M14 => ?_)
              refine r_goto (tgt := 82) hz dX8_line_74 rfl ?_
              refine r_ck (fun h16 => ?_)
              exact r_zret hz hq dX8_line_82 h16 (Nat.le_of_ble_eq_true rfl) (Nat.le_of_ble_eq_true rfl)
          · refine r_aload_n hz dX8_line_55 0 rfl ?_
            refine r_callVi (As := fun _ => []) cl8 hz (fun _ _ h => t_X8_prizeLine _ _ _ _ h) cal_X8_prizeLine dX8_line_56 wm_6_43 wm_6_45 wm_p_62 rfl rfl (Nat.le_of_ble_eq_true rfl) ⟨(Nat.le_of_ble_eq_true rfl), (Nat.le_of_ble_eq_true rfl)⟩ ⟨(Nat.le_of_ble_eq_true rfl), (Nat.le_of_ble_eq_true rfl)⟩ (fun v18 M17 => ?_)
            refine r_ck (fun h19 => ?_)
            exact r_zret hz hq dX8_line_59 h19 (Nat.le_of_ble_eq_true rfl) (Nat.le_of_ble_eq_true rfl)
        · refine r_aload_n hz dX8_line_40 0 rfl ?_
          refine r_callVi (As := fun _ => []) cl8 hz (fun _ _ h => t_X8_holdsLine _ _ _ _ h) cal_X8_holdsLine dX8_line_41 wm_6_35 wm_6_37 wm_p_60 rfl rfl (Nat.le_of_ble_eq_true rfl) ⟨(Nat.le_of_ble_eq_true rfl), (Nat.le_of_ble_eq_true rfl)⟩ ⟨(Nat.le_of_ble_eq_true rfl), (Nat.le_of_ble_eq_true rfl)⟩ (fun v21 M20 => ?_)
          refine r_ck (fun h22 => ?_)
          exact r_zret hz hq dX8_line_44 h22 (Nat.le_of_ble_eq_true rfl) (Nat.le_of_ble_eq_true rfl)
      · refine r_aload_n hz dX8_line_25 0 rfl ?_
        refine r_callVi (As := fun _ => []) cl8 hz (fun _ _ h => t_X8_holderLine _ _ _ _ h) cal_X8_holderLine dX8_line_26 wm_6_31 wm_6_33 wm_p_59 rfl rfl (Nat.le_of_ble_eq_true rfl) ⟨(Nat.le_of_ble_eq_true rfl), (Nat.le_of_ble_eq_true rfl)⟩ ⟨(Nat.le_of_ble_eq_true rfl), (Nat.le_of_ble_eq_true rfl)⟩ (fun v24 M23 => ?_)
        refine r_ck (fun h25 => ?_)
        exact r_zret hz hq dX8_line_29 h25 (Nat.le_of_ble_eq_true rfl) (Nat.le_of_ble_eq_true rfl)
    · refine r_aload_n hz dX8_line_10 0 rfl ?_
      refine r_callVi (As := fun _ => []) cl8 hz (fun _ _ h => t_X8_loanLine _ _ _ _ h) cal_X8_loanLine dX8_line_11 wm_5_200 wm_5_202 wm_p_48 rfl rfl (Nat.le_of_ble_eq_true rfl) ⟨(Nat.le_of_ble_eq_true rfl), (Nat.le_of_ble_eq_true rfl)⟩ ⟨(Nat.le_of_ble_eq_true rfl), (Nat.le_of_ble_eq_true rfl)⟩ (fun v27 M26 => ?_)
      refine r_ck (fun h28 => ?_)
      exact r_zret hz hq dX8_line_14 h28 (Nat.le_of_ble_eq_true rfl) (Nat.le_of_ble_eq_true rfl)
  exact key x M' h ⟨rfl, rfl⟩
theorem dX8_text_0 : decode cX8_text 0 = .ok (.aload_n 0, 1) := by decide +kernel
theorem dX8_text_1 : decode cX8_text 1 = .ok (.iconst 0, 1) := by decide +kernel
theorem dX8_text_2 : decode cX8_text 2 = .ok (.putfield 46, 3) := by decide +kernel
theorem dX8_text_5 : decode cX8_text 5 = .ok (.iload_n 1, 1) := by decide +kernel
theorem dX8_text_6 : decode cX8_text 6 = .ok (.i2l, 1) := by decide +kernel
theorem dX8_text_7 : decode cX8_text 7 = .ok (.lconst 0, 1) := by decide +kernel
theorem dX8_text_8 : decode cX8_text 8 = .ok (.aload_n 0, 1) := by decide +kernel
theorem dX8_text_9 : decode cX8_text 9 = .ok (.getfield 50, 3) := by decide +kernel
theorem dX8_text_12 : decode cX8_text 12 = .ok (.i2l, 1) := by decide +kernel
theorem dX8_text_13 : decode cX8_text 13 = .ok (.invokestatic 83, 3) := by decide +kernel
theorem dX8_text_16 : decode cX8_text 16 = .ok (.ifCond .ne 5, 3) := by decide +kernel
theorem dX8_text_19 : decode cX8_text 19 = .ok (.iconst (-1), 1) := by decide +kernel
theorem dX8_text_20 : decode cX8_text 20 = .ok (.ireturn, 1) := by decide +kernel
theorem dX8_text_21 : decode cX8_text 21 = .ok (.aload_n 0, 1) := by decide +kernel
theorem dX8_text_22 : decode cX8_text 22 = .ok (.iload_n 1, 1) := by decide +kernel
theorem dX8_text_23 : decode cX8_text 23 = .ok (.putfield 57, 3) := by decide +kernel
theorem dX8_text_26 : decode cX8_text 26 = .ok (.aload_n 0, 1) := by decide +kernel
theorem dX8_text_27 : decode cX8_text 27 = .ok (.iconst 0, 1) := by decide +kernel
theorem dX8_text_28 : decode cX8_text 28 = .ok (.putfield 50, 3) := by decide +kernel
theorem dX8_text_31 : decode cX8_text 31 = .ok (.aload_n 0, 1) := by decide +kernel
theorem dX8_text_32 : decode cX8_text 32 = .ok (.iconst 0, 1) := by decide +kernel
theorem dX8_text_33 : decode cX8_text 33 = .ok (.putfield 60, 3) := by decide +kernel
theorem dX8_text_36 : decode cX8_text 36 = .ok (.aload_n 0, 1) := by decide +kernel
theorem dX8_text_37 : decode cX8_text 37 = .ok (.iconst 0, 1) := by decide +kernel
theorem dX8_text_38 : decode cX8_text 38 = .ok (.putfield 141, 3) := by decide +kernel
theorem dX8_text_41 : decode cX8_text 41 = .ok (.aload_n 0, 1) := by decide +kernel
theorem dX8_text_42 : decode cX8_text 42 = .ok (.iconst 0, 1) := by decide +kernel
theorem dX8_text_43 : decode cX8_text 43 = .ok (.putfield 209, 3) := by decide +kernel
theorem dX8_text_46 : decode cX8_text 46 = .ok (.aload_n 0, 1) := by decide +kernel
theorem dX8_text_47 : decode cX8_text 47 = .ok (.iconst 0, 1) := by decide +kernel
theorem dX8_text_48 : decode cX8_text 48 = .ok (.putfield 181, 3) := by decide +kernel
theorem dX8_text_51 : decode cX8_text 51 = .ok (.aload_n 0, 1) := by decide +kernel
theorem dX8_text_52 : decode cX8_text 52 = .ok (.iconst 0, 1) := by decide +kernel
theorem dX8_text_53 : decode cX8_text 53 = .ok (.putfield 188, 3) := by decide +kernel
theorem dX8_text_56 : decode cX8_text 56 = .ok (.aload_n 0, 1) := by decide +kernel
theorem dX8_text_57 : decode cX8_text 57 = .ok (.iconst 0, 1) := by decide +kernel
theorem dX8_text_58 : decode cX8_text 58 = .ok (.putfield 191, 3) := by decide +kernel
theorem dX8_text_61 : decode cX8_text 61 = .ok (.iconst 0, 1) := by decide +kernel
theorem dX8_text_62 : decode cX8_text 62 = .ok (.istore_n 2, 1) := by decide +kernel
theorem dX8_text_63 : decode cX8_text 63 = .ok (.iload_n 2, 1) := by decide +kernel
theorem dX8_text_64 : decode cX8_text 64 = .ok (.bipush 80, 2) := by decide +kernel
theorem dX8_text_66 : decode cX8_text 66 = .ok (.if_icmp .ge 16, 3) := by decide +kernel
theorem dX8_text_69 : decode cX8_text 69 = .ok (.aload_n 0, 1) := by decide +kernel
theorem dX8_text_70 : decode cX8_text 70 = .ok (.getfield 17, 3) := by decide +kernel
theorem dX8_text_73 : decode cX8_text 73 = .ok (.iload_n 2, 1) := by decide +kernel
theorem dX8_text_74 : decode cX8_text 74 = .ok (.iconst 0, 1) := by decide +kernel
theorem dX8_text_75 : decode cX8_text 75 = .ok (.iastore, 1) := by decide +kernel
theorem dX8_text_76 : decode cX8_text 76 = .ok (.iinc 2 1, 3) := by decide +kernel
theorem dX8_text_79 : decode cX8_text 79 = .ok (.goto (-16), 3) := by decide +kernel
theorem dX8_text_82 : decode cX8_text 82 = .ok (.iconst 0, 1) := by decide +kernel
theorem dX8_text_83 : decode cX8_text 83 = .ok (.istore_n 2, 1) := by decide +kernel
theorem dX8_text_84 : decode cX8_text 84 = .ok (.iload_n 2, 1) := by decide +kernel
theorem dX8_text_85 : decode cX8_text 85 = .ok (.sipush 1407, 3) := by decide +kernel
theorem dX8_text_88 : decode cX8_text 88 = .ok (.if_icmp .ge 16, 3) := by decide +kernel
theorem dX8_text_91 : decode cX8_text 91 = .ok (.aload_n 0, 1) := by decide +kernel
theorem dX8_text_92 : decode cX8_text 92 = .ok (.getfield 23, 3) := by decide +kernel
theorem dX8_text_95 : decode cX8_text 95 = .ok (.iload_n 2, 1) := by decide +kernel
theorem dX8_text_96 : decode cX8_text 96 = .ok (.iconst 0, 1) := by decide +kernel
theorem dX8_text_97 : decode cX8_text 97 = .ok (.iastore, 1) := by decide +kernel
theorem dX8_text_98 : decode cX8_text 98 = .ok (.iinc 2 1, 3) := by decide +kernel
theorem dX8_text_101 : decode cX8_text 101 = .ok (.goto (-17), 3) := by decide +kernel
theorem dX8_text_104 : decode cX8_text 104 = .ok (.aload_n 0, 1) := by decide +kernel
theorem dX8_text_105 : decode cX8_text 105 = .ok (.invokevirtual 147, 3) := by decide +kernel
theorem dX8_text_108 : decode cX8_text 108 = .ok (.iconst 1, 1) := by decide +kernel
theorem dX8_text_109 : decode cX8_text 109 = .ok (.istore_n 2, 1) := by decide +kernel
theorem dX8_text_110 : decode cX8_text 110 = .ok (.iload_n 2, 1) := by decide +kernel
theorem dX8_text_111 : decode cX8_text 111 = .ok (.ifCond .eq 54, 3) := by decide +kernel
theorem dX8_text_114 : decode cX8_text 114 = .ok (.aload_n 0, 1) := by decide +kernel
theorem dX8_text_115 : decode cX8_text 115 = .ok (.getfield 76, 3) := by decide +kernel
theorem dX8_text_118 : decode cX8_text 118 = .ok (.ifCond .eq 47, 3) := by decide +kernel
theorem dX8_text_121 : decode cX8_text 121 = .ok (.aload_n 0, 1) := by decide +kernel
theorem dX8_text_122 : decode cX8_text 122 = .ok (.invokevirtual 212, 3) := by decide +kernel
theorem dX8_text_125 : decode cX8_text 125 = .ok (.istore_n 2, 1) := by decide +kernel
theorem dX8_text_126 : decode cX8_text 126 = .ok (.iload_n 2, 1) := by decide +kernel
theorem dX8_text_127 : decode cX8_text 127 = .ok (.ifCond .eq 17, 3) := by decide +kernel
theorem dX8_text_130 : decode cX8_text 130 = .ok (.aload_n 0, 1) := by decide +kernel
theorem dX8_text_131 : decode cX8_text 131 = .ok (.getfield 76, 3) := by decide +kernel
theorem dX8_text_134 : decode cX8_text 134 = .ok (.iconst 3, 1) := by decide +kernel
theorem dX8_text_135 : decode cX8_text 135 = .ok (.if_icmp .eq 9, 3) := by decide +kernel
theorem dX8_text_138 : decode cX8_text 138 = .ok (.aload_n 0, 1) := by decide +kernel
theorem dX8_text_139 : decode cX8_text 139 = .ok (.iconst 1, 1) := by decide +kernel
theorem dX8_text_140 : decode cX8_text 140 = .ok (.invokevirtual 144, 3) := by decide +kernel
theorem dX8_text_143 : decode cX8_text 143 = .ok (.istore_n 2, 1) := by decide +kernel
theorem dX8_text_144 : decode cX8_text 144 = .ok (.iload_n 2, 1) := by decide +kernel
theorem dX8_text_145 : decode cX8_text 145 = .ok (.ifCond .eq (-35), 3) := by decide +kernel
theorem dX8_text_148 : decode cX8_text 148 = .ok (.aload_n 0, 1) := by decide +kernel
theorem dX8_text_149 : decode cX8_text 149 = .ok (.invokevirtual 147, 3) := by decide +kernel
theorem dX8_text_152 : decode cX8_text 152 = .ok (.aload_n 0, 1) := by decide +kernel
theorem dX8_text_153 : decode cX8_text 153 = .ok (.dup, 1) := by decide +kernel
theorem dX8_text_154 : decode cX8_text 154 = .ok (.getfield 209, 3) := by decide +kernel
theorem dX8_text_157 : decode cX8_text 157 = .ok (.iconst 1, 1) := by decide +kernel
theorem dX8_text_158 : decode cX8_text 158 = .ok (.iadd, 1) := by decide +kernel
theorem dX8_text_159 : decode cX8_text 159 = .ok (.putfield 209, 3) := by decide +kernel
theorem dX8_text_162 : decode cX8_text 162 = .ok (.goto (-52), 3) := by decide +kernel
theorem dX8_text_165 : decode cX8_text 165 = .ok (.iload_n 2, 1) := by decide +kernel
theorem dX8_text_166 : decode cX8_text 166 = .ok (.ifCond .ne 11, 3) := by decide +kernel
theorem dX8_text_169 : decode cX8_text 169 = .ok (.bipush (-2), 2) := by decide +kernel
theorem dX8_text_171 : decode cX8_text 171 = .ok (.aload_n 0, 1) := by decide +kernel
theorem dX8_text_172 : decode cX8_text 172 = .ok (.getfield 141, 3) := by decide +kernel
theorem dX8_text_175 : decode cX8_text 175 = .ok (.isub, 1) := by decide +kernel
theorem dX8_text_176 : decode cX8_text 176 = .ok (.ireturn, 1) := by decide +kernel
theorem dX8_text_177 : decode cX8_text 177 = .ok (.iconst 0, 1) := by decide +kernel
theorem dX8_text_178 : decode cX8_text 178 = .ok (.istore_n 3, 1) := by decide +kernel
theorem dX8_text_179 : decode cX8_text 179 = .ok (.iload_n 3, 1) := by decide +kernel
theorem dX8_text_180 : decode cX8_text 180 = .ok (.bipush 80, 2) := by decide +kernel
theorem dX8_text_182 : decode cX8_text 182 = .ok (.if_icmp .ge 21, 3) := by decide +kernel
theorem dX8_text_185 : decode cX8_text 185 = .ok (.aload_n 0, 1) := by decide +kernel
theorem dX8_text_186 : decode cX8_text 186 = .ok (.getfield 13, 3) := by decide +kernel
theorem dX8_text_189 : decode cX8_text 189 = .ok (.iload_n 3, 1) := by decide +kernel
theorem dX8_text_190 : decode cX8_text 190 = .ok (.aload_n 0, 1) := by decide +kernel
theorem dX8_text_191 : decode cX8_text 191 = .ok (.getfield 17, 3) := by decide +kernel
theorem dX8_text_194 : decode cX8_text 194 = .ok (.iload_n 3, 1) := by decide +kernel
theorem dX8_text_195 : decode cX8_text 195 = .ok (.iaload, 1) := by decide +kernel
theorem dX8_text_196 : decode cX8_text 196 = .ok (.iastore, 1) := by decide +kernel
theorem dX8_text_197 : decode cX8_text 197 = .ok (.iinc 3 1, 3) := by decide +kernel
theorem dX8_text_200 : decode cX8_text 200 = .ok (.goto (-21), 3) := by decide +kernel
theorem dX8_text_203 : decode cX8_text 203 = .ok (.aload_n 0, 1) := by decide +kernel
theorem dX8_text_204 : decode cX8_text 204 = .ok (.getfield 23, 3) := by decide +kernel
theorem dX8_text_207 : decode cX8_text 207 = .ok (.iconst 0, 1) := by decide +kernel
theorem dX8_text_208 : decode cX8_text 208 = .ok (.aload_n 0, 1) := by decide +kernel
theorem dX8_text_209 : decode cX8_text 209 = .ok (.getfield 20, 3) := by decide +kernel
theorem dX8_text_212 : decode cX8_text 212 = .ok (.iconst 0, 1) := by decide +kernel
theorem dX8_text_213 : decode cX8_text 213 = .ok (.invokestatic 215, 3) := by decide +kernel
theorem dX8_text_216 : decode cX8_text 216 = .ok (.aload_n 0, 1) := by decide +kernel
theorem dX8_text_217 : decode cX8_text 217 = .ok (.iconst 0, 1) := by decide +kernel
theorem dX8_text_218 : decode cX8_text 218 = .ok (.putfield 219, 3) := by decide +kernel
theorem dX8_text_221 : decode cX8_text 221 = .ok (.aload_n 0, 1) := by decide +kernel
theorem dX8_text_222 : decode cX8_text 222 = .ok (.getfield 29, 3) := by decide +kernel
theorem dX8_text_225 : decode cX8_text 225 = .ok (.iconst 0, 1) := by decide +kernel
theorem dX8_text_226 : decode cX8_text 226 = .ok (.iconst 0, 1) := by decide +kernel
theorem dX8_text_227 : decode cX8_text 227 = .ok (.bastore, 1) := by decide +kernel
theorem dX8_text_228 : decode cX8_text 228 = .ok (.aload_n 0, 1) := by decide +kernel
theorem dX8_text_229 : decode cX8_text 229 = .ok (.getfield 29, 3) := by decide +kernel
theorem dX8_text_232 : decode cX8_text 232 = .ok (.iconst 1, 1) := by decide +kernel
theorem dX8_text_233 : decode cX8_text 233 = .ok (.iconst 0, 1) := by decide +kernel
theorem dX8_text_234 : decode cX8_text 234 = .ok (.bastore, 1) := by decide +kernel
theorem dX8_text_235 : decode cX8_text 235 = .ok (.aload_n 0, 1) := by decide +kernel
theorem dX8_text_236 : decode cX8_text 236 = .ok (.getfield 209, 3) := by decide +kernel
theorem dX8_text_239 : decode cX8_text 239 = .ok (.ireturn, 1) := by decide +kernel
abbrev rX8_text : Room := { frames := 6, cells := 0, slots := 0, locals := 135 }
theorem cal_X8_text : CalOk yX8_text cX8_text 4 (some .int) 1 := ⟨wm_5_174, wm_1_9, by decide, by decide, by decide +kernel⟩
def f_X8_text_179 : Nat → Nat → Int32 → Mm → Option (Int32 × Mm)
  | 0, _, _, _ => none
  | n + 1, x0, x3, M =>
    (if (80 : Int32) ≤ x3 then
      ck (gK M x0 = 8) (bR (gR M x0 18) fun q1 => ck (gK M x0 = 8) (bR (gR M x0 17) fun q2 => bd (f_X8_copies q1 (0 : Int32) q2 (0 : Int32) M) fun _ M3 =>
      ck (gK M3 x0 = 8) (nm (sI M3 x0 23 (0 : Int32)) fun M4 =>
      ck (gK M4 x0 = 8) (bR (gR M4 x0 25) fun q5 => ck (gK M4 q5 = 11 ∧ inb (0 : Int32) (gN M4 q5)) (nm (sI M4 q5 ((0 : Int32)).toNatClampNeg (vp_nar .boolean (0 : Int32))) fun M6 =>
      ck (gK M6 x0 = 8) (bR (gR M6 x0 25) fun q7 => ck (gK M6 q7 = 11 ∧ inb (1 : Int32) (gN M6 q7)) (nm (sI M6 q7 ((1 : Int32)).toNatClampNeg (vp_nar .boolean (0 : Int32))) fun M8 =>
      ck (gK M8 x0 = 8) (some ((gI M8 x0 16), M8)))))))))
    else
      ck (gK M x0 = 8) (bR (gR M x0 11) fun q9 => ck (gK M x0 = 8) (bR (gR M x0 12) fun q10 => ck (gK M q10 = 10 ∧ inb x3 (gN M q10)) (ck (gK M q9 = 10 ∧ inb x3 (gN M q9)) (nm (sI M q9 (x3).toNatClampNeg (gI M q10 (x3).toNatClampNeg)) fun M11 =>
      f_X8_text_179 n x0 (x3 + (1 : Int32)) M11)))))
set_option maxRecDepth 20000 in
set_option maxHeartbeats 4000000 in
theorem s_X8_text_179 {z : Zt} {K : Int32 → Mm → Prop} (hz : Good z RX8 cX8_text 4 rX8_text (some .int)) (hq : Ret z zI K) : ∀ (n : Nat) (x0 : Nat) (x3 : Int32) (M : Mm), Sim z 179 [(0, .ref x0), (3, .int x3)] [] M 0 0 (f_X8_text_179 n x0 x3 M) K := by
  intro n
  induction n with
  | zero => exact fun _ _ _ => r_none
  | succ n ih =>
    intro x0 x3 M
    unfold f_X8_text_179
    refine r_iload_n hz dX8_text_179 1 rfl ?_
    refine r_bipush (v := 80) hz dX8_text_180 rfl ?_
    refine r_icmp_ge (tgt := 203) hz dX8_text_182 rfl ?_ ?_
    · refine r_aload_n hz dX8_text_203 0 rfl ?_
      refine r_getR (j := 18) cl8 hz dX8_text_204 (by decide) wm_5_74 rfl (fun q1 => ?_)
      refine r_iconst (v := 0) hz dX8_text_207 rfl ?_
      refine r_aload_n hz dX8_text_208 0 rfl ?_
      refine r_getR (j := 17) cl8 hz dX8_text_209 (by decide) wm_5_73 rfl (fun q2 => ?_)
      refine r_iconst (v := 0) hz dX8_text_212 rfl ?_
      refine r_callSv (As := fun _ => [.ref q1, .int (0 : Int32), .ref q2, .int (0 : Int32)]) hz (fun _ _ h => t_X8_copies _ _ _ _ _ _ _ h) cal_X8_copies dX8_text_213 wm_6_51 wm_6_52 rfl rfl (Nat.le_of_ble_eq_true rfl) ⟨(Nat.le_of_ble_eq_true rfl), (Nat.le_of_ble_eq_true rfl)⟩ ⟨(Nat.le_of_ble_eq_true rfl), (Nat.le_of_ble_eq_true rfl)⟩ (fun _ M3 => ?_)
      refine r_aload_n hz dX8_text_216 0 rfl ?_
      refine r_iconst (v := 0) hz dX8_text_217 rfl ?_
      refine r_putI (j := 23) cl8 hz dX8_text_218 (by decide) wm_5_79 (Or.inl rfl) rfl rfl rfl ?_
      refine r_nmM (fun M4 => ?_)
      refine r_aload_n hz dX8_text_221 0 rfl ?_
      refine r_getR (j := 25) cl8 hz dX8_text_222 (by decide) wm_5_81 rfl (fun q5 => ?_)
      refine r_iconst (v := 0) hz dX8_text_225 rfl ?_
      refine r_iconst (v := 0) hz dX8_text_226 rfl ?_
      refine r_zast hz dX8_text_227 ?_
      refine r_nmM (fun M6 => ?_)
      refine r_aload_n hz dX8_text_228 0 rfl ?_
      refine r_getR (j := 25) cl8 hz dX8_text_229 (by decide) wm_5_81 rfl (fun q7 => ?_)
      refine r_iconst (v := 1) hz dX8_text_232 rfl ?_
      refine r_iconst (v := 0) hz dX8_text_233 rfl ?_
      refine r_zast hz dX8_text_234 ?_
      refine r_nmM (fun M8 => ?_)
      refine r_aload_n hz dX8_text_235 0 rfl ?_
      refine r_getI (j := 16) cl8 hz dX8_text_236 (by decide) wm_5_72 rfl ?_
      exact r_iret hz hq dX8_text_239 (Nat.le_of_ble_eq_true rfl) (Nat.le_of_ble_eq_true rfl)
    · refine r_aload_n hz dX8_text_185 0 rfl ?_
      refine r_getR (j := 11) cl8 hz dX8_text_186 (by decide) wm_5_67 rfl (fun q9 => ?_)
      refine r_iload_n hz dX8_text_189 1 rfl ?_
      refine r_aload_n hz dX8_text_190 0 rfl ?_
      refine r_getR (j := 12) cl8 hz dX8_text_191 (by decide) wm_5_68 rfl (fun q10 => ?_)
      refine r_iload_n hz dX8_text_194 1 rfl ?_
      refine r_iald hz dX8_text_195 ?_
      refine r_iast hz dX8_text_196 ?_
      refine r_nmM (fun M11 => ?_)
      refine r_iinc (v := (x3 + (1 : Int32))) (lv' := [(3, .int (x3 + (1 : Int32))), (0, .ref x0)]) hz dX8_text_197 1 rfl rfl (by decide) rfl ?_
      refine r_goto (tgt := 179) hz dX8_text_200 rfl ?_
      refine r_sub [1, 0] rfl ?_
      exact ih x0 (x3 + (1 : Int32)) M11
def f_X8_text_144 (r110 : Nat → Int32 → Mm → Option (Int32 × Mm)) (x0 : Nat) (x2 : Int32) (M : Mm) : Option (Int32 × Mm) :=
  (if x2 = 0 then
    r110 x0 x2 M
  else
    ck (gK M x0 = 8) (bd (f_X8_go x0 M) fun _ M1 =>
    ck (gK M1 x0 = 8) (ck (gK M1 x0 = 8) (nm (sI M1 x0 16 ((gI M1 x0 16) + (1 : Int32))) fun M2 =>
    r110 x0 x2 M2))))
set_option maxRecDepth 20000 in
set_option maxHeartbeats 4000000 in
theorem s_X8_text_144 {z : Zt} {K : Int32 → Mm → Prop} (hz : Good z RX8 cX8_text 4 rX8_text (some .int)) (hq : Ret z zI K) {r110 : Nat → Int32 → Mm → Option (Int32 × Mm)} (H110 : ∀ (x0 : Nat) (x2 : Int32) (M : Mm), Sim z 110 [(0, .ref x0), (2, .int x2)] [] M 0 0 (r110 x0 x2 M) K) : ∀ (x0 : Nat) (x2 : Int32) (M : Mm), Sim z 144 [(0, .ref x0), (2, .int x2)] [] M 0 0 (f_X8_text_144 r110 x0 x2 M) K := by
  intro x0 x2 M
  unfold f_X8_text_144
  refine r_iload_n hz dX8_text_144 1 rfl ?_
  refine r_if_eq (tgt := 110) hz dX8_text_145 rfl ?_ ?_
  · exact H110 x0 x2 M
  · refine r_aload_n hz dX8_text_148 0 rfl ?_
    refine r_callVv (As := fun _ => []) cl8 hz (fun _ _ h => t_X8_go _ _ _ _ h) cal_X8_go dX8_text_149 wm_5_178 wm_5_180 wm_p_44 rfl rfl (Nat.le_of_ble_eq_true rfl) ⟨(Nat.le_of_ble_eq_true rfl), (Nat.le_of_ble_eq_true rfl)⟩ ⟨(Nat.le_of_ble_eq_true rfl), (Nat.le_of_ble_eq_true rfl)⟩ (fun _ M1 => ?_)
    refine r_aload_n hz dX8_text_152 0 rfl ?_
    refine r_dup hz dX8_text_153 rfl ?_
    refine r_getI (j := 16) cl8 hz dX8_text_154 (by decide) wm_5_72 rfl ?_
    refine r_iconst (v := 1) hz dX8_text_157 rfl ?_
    refine r_iadd hz dX8_text_158 ?_
    refine r_putI (j := 16) cl8 hz dX8_text_159 (by decide) wm_5_72 (Or.inl rfl) rfl rfl rfl ?_
    refine r_nmM (fun M2 => ?_)
    refine r_goto (tgt := 110) hz dX8_text_162 rfl ?_
    exact H110 x0 x2 M2
def f_X8_text_110 : Nat → Nat → Int32 → Mm → Option (Int32 × Mm)
  | 0, _, _, _ => none
  | n + 1, x0, x2, M =>
    (if x2 = 0 then
      (if ¬ x2 = 0 then
        f_X8_text_179 FU x0 (0 : Int32) M
      else
        ck (gK M x0 = 8) (some (((-2 : Int32) - (gI M x0 9)), M)))
    else
      ck (gK M x0 = 8) ((if (gI M x0 6) = 0 then
        (if ¬ x2 = 0 then
          f_X8_text_179 FU x0 (0 : Int32) M
        else
          ck (gK M x0 = 8) (some (((-2 : Int32) - (gI M x0 9)), M)))
      else
        ck (gK M x0 = 8) (bd (f_X8_line x0 M) fun v2 M1 =>
        (if v2 = 0 then
          f_X8_text_144 (f_X8_text_110 n) x0 v2 M1
        else
          ck (gK M1 x0 = 8) ((if (gI M1 x0 6) = (3 : Int32) then
            f_X8_text_144 (f_X8_text_110 n) x0 v2 M1
          else
            ck (gK M1 x0 = 8) (bd (f_X8_bad x0 (1 : Int32) M1) fun v4 M3 =>
            f_X8_text_144 (f_X8_text_110 n) x0 v4 M3))))))))
set_option maxRecDepth 20000 in
set_option maxHeartbeats 4000000 in
theorem s_X8_text_110 {z : Zt} {K : Int32 → Mm → Prop} (hz : Good z RX8 cX8_text 4 rX8_text (some .int)) (hq : Ret z zI K) : ∀ (n : Nat) (x0 : Nat) (x2 : Int32) (M : Mm), Sim z 110 [(0, .ref x0), (2, .int x2)] [] M 0 0 (f_X8_text_110 n x0 x2 M) K := by
  intro n
  induction n with
  | zero => exact fun _ _ _ => r_none
  | succ n ih =>
    intro x0 x2 M
    unfold f_X8_text_110
    refine r_iload_n hz dX8_text_110 1 rfl ?_
    refine r_if_eq (tgt := 165) hz dX8_text_111 rfl ?_ ?_
    · refine r_iload_n hz dX8_text_165 1 rfl ?_
      refine r_if_ne (tgt := 177) hz dX8_text_166 rfl ?_ ?_
      · refine r_iconst (v := 0) hz dX8_text_177 rfl ?_
        refine r_istore_n (lv' := [(3, .int (0 : Int32)), (0, .ref x0), (2, .int x2)]) hz dX8_text_178 (by decide) rfl ?_
        refine r_sub [1, 0] rfl ?_
        exact s_X8_text_179 hz hq FU x0 (0 : Int32) M
      · refine r_bipush (v := -2) hz dX8_text_169 rfl ?_
        refine r_aload_n hz dX8_text_171 0 rfl ?_
        refine r_getI (j := 9) cl8 hz dX8_text_172 (by decide) wm_5_65 rfl ?_
        refine r_isub hz dX8_text_175 ?_
        exact r_iret hz hq dX8_text_176 (Nat.le_of_ble_eq_true rfl) (Nat.le_of_ble_eq_true rfl)
    · refine r_aload_n hz dX8_text_114 0 rfl ?_
      refine r_getI (j := 6) cl8 hz dX8_text_115 (by decide) wm_5_62 rfl ?_
      refine r_if_eq (tgt := 165) hz dX8_text_118 rfl ?_ ?_
      · refine r_iload_n hz dX8_text_165 1 rfl ?_
        refine r_if_ne (tgt := 177) hz dX8_text_166 rfl ?_ ?_
        · refine r_iconst (v := 0) hz dX8_text_177 rfl ?_
          refine r_istore_n (lv' := [(3, .int (0 : Int32)), (0, .ref x0), (2, .int x2)]) hz dX8_text_178 (by decide) rfl ?_
          refine r_sub [1, 0] rfl ?_
          exact s_X8_text_179 hz hq FU x0 (0 : Int32) M
        · refine r_bipush (v := -2) hz dX8_text_169 rfl ?_
          refine r_aload_n hz dX8_text_171 0 rfl ?_
          refine r_getI (j := 9) cl8 hz dX8_text_172 (by decide) wm_5_65 rfl ?_
          refine r_isub hz dX8_text_175 ?_
          exact r_iret hz hq dX8_text_176 (Nat.le_of_ble_eq_true rfl) (Nat.le_of_ble_eq_true rfl)
      · refine r_aload_n hz dX8_text_121 0 rfl ?_
        refine r_callVi (As := fun _ => []) cl8 hz (fun _ _ h => t_X8_line _ _ _ _ h) cal_X8_line dX8_text_122 wm_5_190 wm_5_192 wm_p_46 rfl rfl (Nat.le_of_ble_eq_true rfl) ⟨(Nat.le_of_ble_eq_true rfl), (Nat.le_of_ble_eq_true rfl)⟩ ⟨(Nat.le_of_ble_eq_true rfl), (Nat.le_of_ble_eq_true rfl)⟩ (fun v2 M1 => ?_)
        refine r_istore_n (lv' := [(2, .int v2), (0, .ref x0)]) hz dX8_text_125 (by decide) rfl ?_
        refine r_iload_n hz dX8_text_126 0 rfl ?_
        refine r_if_eq (tgt := 144) hz dX8_text_127 rfl ?_ ?_
        · refine r_sub [1, 0] rfl ?_
          exact s_X8_text_144 hz hq ih x0 v2 M1
        · refine r_aload_n hz dX8_text_130 1 rfl ?_
          refine r_getI (j := 6) cl8 hz dX8_text_131 (by decide) wm_5_62 rfl ?_
          refine r_iconst (v := 3) hz dX8_text_134 rfl ?_
          refine r_icmp_eq (tgt := 144) hz dX8_text_135 rfl ?_ ?_
          · refine r_sub [1, 0] rfl ?_
            exact s_X8_text_144 hz hq ih x0 v2 M1
          · refine r_aload_n hz dX8_text_138 1 rfl ?_
            refine r_iconst (v := 1) hz dX8_text_139 rfl ?_
            refine r_callVi (As := fun _ => [.int (1 : Int32)]) cl8 hz (fun _ _ h => t_X8_bad _ _ _ _ _ h) cal_X8_bad dX8_text_140 wm_5_204 wm_5_206 wm_p_49 rfl rfl (Nat.le_of_ble_eq_true rfl) ⟨(Nat.le_of_ble_eq_true rfl), (Nat.le_of_ble_eq_true rfl)⟩ ⟨(Nat.le_of_ble_eq_true rfl), (Nat.le_of_ble_eq_true rfl)⟩ (fun v4 M3 => ?_)
            refine r_istore_n (lv' := [(2, .int v4), (0, .ref x0)]) hz dX8_text_143 (by decide) rfl ?_
            refine r_sub [1, 0] rfl ?_
            exact s_X8_text_144 hz hq ih x0 v4 M3
def f_X8_text_84 : Nat → Nat → Int32 → Mm → Option (Int32 × Mm)
  | 0, _, _, _ => none
  | n + 1, x0, x2, M =>
    (if (1407 : Int32) ≤ x2 then
      ck (gK M x0 = 8) (bd (f_X8_go x0 M) fun _ M1 =>
      f_X8_text_110 FU x0 (1 : Int32) M1)
    else
      ck (gK M x0 = 8) (bR (gR M x0 18) fun q2 => ck (gK M q2 = 10 ∧ inb x2 (gN M q2)) (nm (sI M q2 (x2).toNatClampNeg (0 : Int32)) fun M3 =>
      f_X8_text_84 n x0 (x2 + (1 : Int32)) M3)))
set_option maxRecDepth 20000 in
set_option maxHeartbeats 4000000 in
theorem s_X8_text_84 {z : Zt} {K : Int32 → Mm → Prop} (hz : Good z RX8 cX8_text 4 rX8_text (some .int)) (hq : Ret z zI K) : ∀ (n : Nat) (x0 : Nat) (x2 : Int32) (M : Mm), Sim z 84 [(0, .ref x0), (2, .int x2)] [] M 0 0 (f_X8_text_84 n x0 x2 M) K := by
  intro n
  induction n with
  | zero => exact fun _ _ _ => r_none
  | succ n ih =>
    intro x0 x2 M
    unfold f_X8_text_84
    refine r_iload_n hz dX8_text_84 1 rfl ?_
    refine r_sipush (v := 1407) hz dX8_text_85 rfl ?_
    refine r_icmp_ge (tgt := 104) hz dX8_text_88 rfl ?_ ?_
    · refine r_aload_n hz dX8_text_104 0 rfl ?_
      refine r_callVv (As := fun _ => []) cl8 hz (fun _ _ h => t_X8_go _ _ _ _ h) cal_X8_go dX8_text_105 wm_5_178 wm_5_180 wm_p_44 rfl rfl (Nat.le_of_ble_eq_true rfl) ⟨(Nat.le_of_ble_eq_true rfl), (Nat.le_of_ble_eq_true rfl)⟩ ⟨(Nat.le_of_ble_eq_true rfl), (Nat.le_of_ble_eq_true rfl)⟩ (fun _ M1 => ?_)
      refine r_iconst (v := 1) hz dX8_text_108 rfl ?_
      refine r_istore_n (lv' := [(2, .int (1 : Int32)), (0, .ref x0)]) hz dX8_text_109 (by decide) rfl ?_
      refine r_sub [1, 0] rfl ?_
      exact s_X8_text_110 hz hq FU x0 (1 : Int32) M1
    · refine r_aload_n hz dX8_text_91 0 rfl ?_
      refine r_getR (j := 18) cl8 hz dX8_text_92 (by decide) wm_5_74 rfl (fun q2 => ?_)
      refine r_iload_n hz dX8_text_95 1 rfl ?_
      refine r_iconst (v := 0) hz dX8_text_96 rfl ?_
      refine r_iast hz dX8_text_97 ?_
      refine r_nmM (fun M3 => ?_)
      refine r_iinc (v := (x2 + (1 : Int32))) (lv' := [(2, .int (x2 + (1 : Int32))), (0, .ref x0)]) hz dX8_text_98 1 rfl rfl (by decide) rfl ?_
      refine r_goto (tgt := 84) hz dX8_text_101 rfl ?_
      refine r_sub [1, 0] rfl ?_
      exact ih x0 (x2 + (1 : Int32)) M3
def f_X8_text_63 : Nat → Nat → Int32 → Mm → Option (Int32 × Mm)
  | 0, _, _, _ => none
  | n + 1, x0, x2, M =>
    (if (80 : Int32) ≤ x2 then
      f_X8_text_84 FU x0 (0 : Int32) M
    else
      ck (gK M x0 = 8) (bR (gR M x0 12) fun q1 => ck (gK M q1 = 10 ∧ inb x2 (gN M q1)) (nm (sI M q1 (x2).toNatClampNeg (0 : Int32)) fun M2 =>
      f_X8_text_63 n x0 (x2 + (1 : Int32)) M2)))
set_option maxRecDepth 20000 in
set_option maxHeartbeats 4000000 in
theorem s_X8_text_63 {z : Zt} {K : Int32 → Mm → Prop} (hz : Good z RX8 cX8_text 4 rX8_text (some .int)) (hq : Ret z zI K) : ∀ (n : Nat) (x0 : Nat) (x2 : Int32) (M : Mm), Sim z 63 [(0, .ref x0), (2, .int x2)] [] M 0 0 (f_X8_text_63 n x0 x2 M) K := by
  intro n
  induction n with
  | zero => exact fun _ _ _ => r_none
  | succ n ih =>
    intro x0 x2 M
    unfold f_X8_text_63
    refine r_iload_n hz dX8_text_63 1 rfl ?_
    refine r_bipush (v := 80) hz dX8_text_64 rfl ?_
    refine r_icmp_ge (tgt := 82) hz dX8_text_66 rfl ?_ ?_
    · refine r_iconst (v := 0) hz dX8_text_82 rfl ?_
      refine r_istore_n (lv' := [(2, .int (0 : Int32)), (0, .ref x0)]) hz dX8_text_83 (by decide) rfl ?_
      refine r_sub [1, 0] rfl ?_
      exact s_X8_text_84 hz hq FU x0 (0 : Int32) M
    · refine r_aload_n hz dX8_text_69 0 rfl ?_
      refine r_getR (j := 12) cl8 hz dX8_text_70 (by decide) wm_5_68 rfl (fun q1 => ?_)
      refine r_iload_n hz dX8_text_73 1 rfl ?_
      refine r_iconst (v := 0) hz dX8_text_74 rfl ?_
      refine r_iast hz dX8_text_75 ?_
      refine r_nmM (fun M2 => ?_)
      refine r_iinc (v := (x2 + (1 : Int32))) (lv' := [(2, .int (x2 + (1 : Int32))), (0, .ref x0)]) hz dX8_text_76 1 rfl rfl (by decide) rfl ?_
      refine r_goto (tgt := 63) hz dX8_text_79 rfl ?_
      refine r_sub [1, 0] rfl ?_
      exact ih x0 (x2 + (1 : Int32)) M2
def f_X8_text (p0 : Nat) (p1 : Int32) (M : Mm) : Option (Int32 × Mm) :=
  ck (gK M p0 = 8) (nm (sI M p0 0 (0 : Int32)) fun M1 =>
  ck (gK M1 p0 = 8) (bd (f_X8_within (p1).toInt64 (0 : Int64) ((gI M1 p0 2)).toInt64 M1) fun v3 M2 =>
  (if ¬ v3 = 0 then
    ck (gK M2 p0 = 8) (nm (sI M2 p0 3 p1) fun M4 =>
    ck (gK M4 p0 = 8) (nm (sI M4 p0 2 (0 : Int32)) fun M5 =>
    ck (gK M5 p0 = 8) (nm (sI M5 p0 5 (0 : Int32)) fun M6 =>
    ck (gK M6 p0 = 8) (nm (sI M6 p0 9 (0 : Int32)) fun M7 =>
    ck (gK M7 p0 = 8) (nm (sI M7 p0 16 (0 : Int32)) fun M8 =>
    ck (gK M8 p0 = 8) (nm (sI M8 p0 13 (0 : Int32)) fun M9 =>
    ck (gK M9 p0 = 8) (nm (sI M9 p0 14 (0 : Int32)) fun M10 =>
    ck (gK M10 p0 = 8) (nm (sI M10 p0 15 (0 : Int32)) fun M11 =>
    f_X8_text_63 FU p0 (0 : Int32) M11))))))))
  else
    some ((-1 : Int32), M2))))
set_option maxRecDepth 20000 in
set_option maxHeartbeats 4000000 in
theorem t_X8_text (p0 : Nat) (p1 : Int32) (M : Mm) (x : Int32) (M' : Mm) (h : f_X8_text p0 p1 M = some (x, M')) : Ctr yX8_text cX8_text 4 (some .int) rX8_text (fun _ => [.ref p0, .int p1]) M (zI x) M' := by
  refine ctr_of (plainFor_of_name (by decide)) (fun _ => Nat.le_of_ble_eq_true rfl) (fun z hz hin hq => ?_)
  have key : Sim z 0 [(0, .ref p0), (1, .int p1)] [] M 0 0 (f_X8_text p0 p1 M) (fun a b => a = x ∧ b = M') := by
    have hq : Ret z zI (fun a b => a = x ∧ b = M') := fun a b e => by rw [e.1, e.2]; exact hq
    unfold f_X8_text
    refine r_aload_n hz dX8_text_0 0 rfl ?_
    refine r_iconst (v := 0) hz dX8_text_1 rfl ?_
    refine r_putI (j := 0) cl8 hz dX8_text_2 (by decide) wm_5_56 (Or.inl rfl) rfl rfl rfl ?_
    refine r_nmM (fun M1 => ?_)
    refine r_iload_n hz dX8_text_5 1 rfl ?_
    refine r_i2l hz dX8_text_6 ?_
    refine r_lconst (v := 0) hz dX8_text_7 rfl ?_
    refine r_aload_n hz dX8_text_8 0 rfl ?_
    refine r_getI (j := 2) cl8 hz dX8_text_9 (by decide) wm_5_58 rfl ?_
    refine r_i2l hz dX8_text_12 ?_
    refine r_callSi (As := fun _ => [.long (p1).toInt64, .long (0 : Int64), .long ((gI M1 p0 2)).toInt64]) hz (fun _ _ h => t_X8_within _ _ _ _ _ _ h) cal_X8_within dX8_text_13 wm_5_175 wm_5_176 rfl rfl (Nat.le_of_ble_eq_true rfl) ⟨(Nat.le_of_ble_eq_true rfl), (Nat.le_of_ble_eq_true rfl)⟩ ⟨(Nat.le_of_ble_eq_true rfl), (Nat.le_of_ble_eq_true rfl)⟩ (fun v3 M2 => ?_)
    refine r_if_ne (tgt := 21) hz dX8_text_16 rfl ?_ ?_
    · refine r_aload_n hz dX8_text_21 0 rfl ?_
      refine r_iload_n hz dX8_text_22 1 rfl ?_
      refine r_putI (j := 3) cl8 hz dX8_text_23 (by decide) wm_5_59 (Or.inl rfl) rfl rfl rfl ?_
      refine r_nmM (fun M4 => ?_)
      refine r_aload_n hz dX8_text_26 0 rfl ?_
      refine r_iconst (v := 0) hz dX8_text_27 rfl ?_
      refine r_putI (j := 2) cl8 hz dX8_text_28 (by decide) wm_5_58 (Or.inl rfl) rfl rfl rfl ?_
      refine r_nmM (fun M5 => ?_)
      refine r_aload_n hz dX8_text_31 0 rfl ?_
      refine r_iconst (v := 0) hz dX8_text_32 rfl ?_
      refine r_putI (j := 5) cl8 hz dX8_text_33 (by decide) wm_5_61 (Or.inl rfl) rfl rfl rfl ?_
      refine r_nmM (fun M6 => ?_)
      refine r_aload_n hz dX8_text_36 0 rfl ?_
      refine r_iconst (v := 0) hz dX8_text_37 rfl ?_
      refine r_putI (j := 9) cl8 hz dX8_text_38 (by decide) wm_5_65 (Or.inl rfl) rfl rfl rfl ?_
      refine r_nmM (fun M7 => ?_)
      refine r_aload_n hz dX8_text_41 0 rfl ?_
      refine r_iconst (v := 0) hz dX8_text_42 rfl ?_
      refine r_putI (j := 16) cl8 hz dX8_text_43 (by decide) wm_5_72 (Or.inl rfl) rfl rfl rfl ?_
      refine r_nmM (fun M8 => ?_)
      refine r_aload_n hz dX8_text_46 0 rfl ?_
      refine r_iconst (v := 0) hz dX8_text_47 rfl ?_
      refine r_putI (j := 13) cl8 hz dX8_text_48 (by decide) wm_5_69 (Or.inl rfl) rfl rfl rfl ?_
      refine r_nmM (fun M9 => ?_)
      refine r_aload_n hz dX8_text_51 0 rfl ?_
      refine r_iconst (v := 0) hz dX8_text_52 rfl ?_
      refine r_putI (j := 14) cl8 hz dX8_text_53 (by decide) wm_5_70 (Or.inl rfl) rfl rfl rfl ?_
      refine r_nmM (fun M10 => ?_)
      refine r_aload_n hz dX8_text_56 0 rfl ?_
      refine r_iconst (v := 0) hz dX8_text_57 rfl ?_
      refine r_putI (j := 15) cl8 hz dX8_text_58 (by decide) wm_5_71 (Or.inl rfl) rfl rfl rfl ?_
      refine r_nmM (fun M11 => ?_)
      refine r_iconst (v := 0) hz dX8_text_61 rfl ?_
      refine r_istore_n (lv' := [(2, .int (0 : Int32)), (0, .ref p0), (1, .int p1)]) hz dX8_text_62 (by decide) rfl ?_
      refine r_sub [1, 0] rfl ?_
      exact s_X8_text_63 hz hq FU p0 (0 : Int32) M11
    · refine r_iconst (v := -1) hz dX8_text_19 rfl ?_
      exact r_iret hz hq dX8_text_20 (Nat.le_of_ble_eq_true rfl) (Nat.le_of_ble_eq_true rfl)
  exact key x M' h ⟨rfl, rfl⟩
theorem dX8_isLoan_0 : decode cX8_isLoan 0 = .ok (.iload_n 1, 1) := by decide +kernel
theorem dX8_isLoan_1 : decode cX8_isLoan 1 = .ok (.i2l, 1) := by decide +kernel
theorem dX8_isLoan_2 : decode cX8_isLoan 2 = .ok (.lconst 0, 1) := by decide +kernel
theorem dX8_isLoan_3 : decode cX8_isLoan 3 = .ok (.aload_n 0, 1) := by decide +kernel
theorem dX8_isLoan_4 : decode cX8_isLoan 4 = .ok (.getfield 13, 3) := by decide +kernel
theorem dX8_isLoan_7 : decode cX8_isLoan 7 = .ok (.iconst 0, 1) := by decide +kernel
theorem dX8_isLoan_8 : decode cX8_isLoan 8 = .ok (.iaload, 1) := by decide +kernel
theorem dX8_isLoan_9 : decode cX8_isLoan 9 = .ok (.iconst 1, 1) := by decide +kernel
theorem dX8_isLoan_10 : decode cX8_isLoan 10 = .ok (.isub, 1) := by decide +kernel
theorem dX8_isLoan_11 : decode cX8_isLoan 11 = .ok (.i2l, 1) := by decide +kernel
theorem dX8_isLoan_12 : decode cX8_isLoan 12 = .ok (.invokestatic 83, 3) := by decide +kernel
theorem dX8_isLoan_15 : decode cX8_isLoan 15 = .ok (.ireturn, 1) := by decide +kernel
abbrev rX8_isLoan : Room := { frames := 1, cells := 0, slots := 0, locals := 25 }
theorem cal_X8_isLoan : CalOk yX8_isLoan cX8_isLoan 2 (some .boolean) 1 := ⟨wm_6_82, wm_1_9, by decide, by decide, by decide +kernel⟩
def f_X8_isLoan (p0 : Nat) (p1 : Int32) (M : Mm) : Option (Int32 × Mm) :=
  ck (gK M p0 = 8) (bR (gR M p0 11) fun q1 => ck (gK M q1 = 10 ∧ inb (0 : Int32) (gN M q1)) (bd (f_X8_within (p1).toInt64 (0 : Int64) (((gI M q1 ((0 : Int32)).toNatClampNeg) - (1 : Int32))).toInt64 M) fun v3 M2 =>
  ck (v3 = 0 ∨ v3 = 1) (some (v3, M2))))
set_option maxRecDepth 20000 in
set_option maxHeartbeats 4000000 in
theorem t_X8_isLoan (p0 : Nat) (p1 : Int32) (M : Mm) (x : Int32) (M' : Mm) (h : f_X8_isLoan p0 p1 M = some (x, M')) : Ctr yX8_isLoan cX8_isLoan 2 (some .boolean) rX8_isLoan (fun _ => [.ref p0, .int p1]) M (zI x) M' := by
  refine ctr_of (plainFor_of_name (by decide)) (fun _ => Nat.le_of_ble_eq_true rfl) (fun z hz hin hq => ?_)
  have key : Sim z 0 [(0, .ref p0), (1, .int p1)] [] M 0 0 (f_X8_isLoan p0 p1 M) (fun a b => a = x ∧ b = M') := by
    have hq : Ret z zI (fun a b => a = x ∧ b = M') := fun a b e => by rw [e.1, e.2]; exact hq
    unfold f_X8_isLoan
    refine r_iload_n hz dX8_isLoan_0 1 rfl ?_
    refine r_i2l hz dX8_isLoan_1 ?_
    refine r_lconst (v := 0) hz dX8_isLoan_2 rfl ?_
    refine r_aload_n hz dX8_isLoan_3 0 rfl ?_
    refine r_getR (j := 11) cl8 hz dX8_isLoan_4 (by decide) wm_5_67 rfl (fun q1 => ?_)
    refine r_iconst (v := 0) hz dX8_isLoan_7 rfl ?_
    refine r_iald hz dX8_isLoan_8 ?_
    refine r_iconst (v := 1) hz dX8_isLoan_9 rfl ?_
    refine r_isub hz dX8_isLoan_10 ?_
    refine r_i2l hz dX8_isLoan_11 ?_
    refine r_callSi (As := fun _ => [.long (p1).toInt64, .long (0 : Int64), .long (((gI M q1 ((0 : Int32)).toNatClampNeg) - (1 : Int32))).toInt64]) hz (fun _ _ h => t_X8_within _ _ _ _ _ _ h) cal_X8_within dX8_isLoan_12 wm_5_175 wm_5_176 rfl rfl (Nat.le_of_ble_eq_true rfl) ⟨(Nat.le_of_ble_eq_true rfl), (Nat.le_of_ble_eq_true rfl)⟩ ⟨(Nat.le_of_ble_eq_true rfl), (Nat.le_of_ble_eq_true rfl)⟩ (fun v3 M2 => ?_)
    refine r_ck (fun h4 => ?_)
    exact r_zret hz hq dX8_isLoan_15 h4 (Nat.le_of_ble_eq_true rfl) (Nat.le_of_ble_eq_true rfl)
  exact key x M' h ⟨rfl, rfl⟩
theorem dX8_isHolder_0 : decode cX8_isHolder 0 = .ok (.iload_n 1, 1) := by decide +kernel
theorem dX8_isHolder_1 : decode cX8_isHolder 1 = .ok (.i2l, 1) := by decide +kernel
theorem dX8_isHolder_2 : decode cX8_isHolder 2 = .ok (.lconst 0, 1) := by decide +kernel
theorem dX8_isHolder_3 : decode cX8_isHolder 3 = .ok (.aload_n 0, 1) := by decide +kernel
theorem dX8_isHolder_4 : decode cX8_isHolder 4 = .ok (.getfield 13, 3) := by decide +kernel
theorem dX8_isHolder_7 : decode cX8_isHolder 7 = .ok (.iconst 1, 1) := by decide +kernel
theorem dX8_isHolder_8 : decode cX8_isHolder 8 = .ok (.iaload, 1) := by decide +kernel
theorem dX8_isHolder_9 : decode cX8_isHolder 9 = .ok (.iconst 1, 1) := by decide +kernel
theorem dX8_isHolder_10 : decode cX8_isHolder 10 = .ok (.isub, 1) := by decide +kernel
theorem dX8_isHolder_11 : decode cX8_isHolder 11 = .ok (.i2l, 1) := by decide +kernel
theorem dX8_isHolder_12 : decode cX8_isHolder 12 = .ok (.invokestatic 83, 3) := by decide +kernel
theorem dX8_isHolder_15 : decode cX8_isHolder 15 = .ok (.ireturn, 1) := by decide +kernel
abbrev rX8_isHolder : Room := { frames := 1, cells := 0, slots := 0, locals := 25 }
theorem cal_X8_isHolder : CalOk yX8_isHolder cX8_isHolder 2 (some .boolean) 1 := ⟨wm_6_91, wm_1_9, by decide, by decide, by decide +kernel⟩
def f_X8_isHolder (p0 : Nat) (p1 : Int32) (M : Mm) : Option (Int32 × Mm) :=
  ck (gK M p0 = 8) (bR (gR M p0 11) fun q1 => ck (gK M q1 = 10 ∧ inb (1 : Int32) (gN M q1)) (bd (f_X8_within (p1).toInt64 (0 : Int64) (((gI M q1 ((1 : Int32)).toNatClampNeg) - (1 : Int32))).toInt64 M) fun v3 M2 =>
  ck (v3 = 0 ∨ v3 = 1) (some (v3, M2))))
set_option maxRecDepth 20000 in
set_option maxHeartbeats 4000000 in
theorem t_X8_isHolder (p0 : Nat) (p1 : Int32) (M : Mm) (x : Int32) (M' : Mm) (h : f_X8_isHolder p0 p1 M = some (x, M')) : Ctr yX8_isHolder cX8_isHolder 2 (some .boolean) rX8_isHolder (fun _ => [.ref p0, .int p1]) M (zI x) M' := by
  refine ctr_of (plainFor_of_name (by decide)) (fun _ => Nat.le_of_ble_eq_true rfl) (fun z hz hin hq => ?_)
  have key : Sim z 0 [(0, .ref p0), (1, .int p1)] [] M 0 0 (f_X8_isHolder p0 p1 M) (fun a b => a = x ∧ b = M') := by
    have hq : Ret z zI (fun a b => a = x ∧ b = M') := fun a b e => by rw [e.1, e.2]; exact hq
    unfold f_X8_isHolder
    refine r_iload_n hz dX8_isHolder_0 1 rfl ?_
    refine r_i2l hz dX8_isHolder_1 ?_
    refine r_lconst (v := 0) hz dX8_isHolder_2 rfl ?_
    refine r_aload_n hz dX8_isHolder_3 0 rfl ?_
    refine r_getR (j := 11) cl8 hz dX8_isHolder_4 (by decide) wm_5_67 rfl (fun q1 => ?_)
    refine r_iconst (v := 1) hz dX8_isHolder_7 rfl ?_
    refine r_iald hz dX8_isHolder_8 ?_
    refine r_iconst (v := 1) hz dX8_isHolder_9 rfl ?_
    refine r_isub hz dX8_isHolder_10 ?_
    refine r_i2l hz dX8_isHolder_11 ?_
    refine r_callSi (As := fun _ => [.long (p1).toInt64, .long (0 : Int64), .long (((gI M q1 ((1 : Int32)).toNatClampNeg) - (1 : Int32))).toInt64]) hz (fun _ _ h => t_X8_within _ _ _ _ _ _ h) cal_X8_within dX8_isHolder_12 wm_5_175 wm_5_176 rfl rfl (Nat.le_of_ble_eq_true rfl) ⟨(Nat.le_of_ble_eq_true rfl), (Nat.le_of_ble_eq_true rfl)⟩ ⟨(Nat.le_of_ble_eq_true rfl), (Nat.le_of_ble_eq_true rfl)⟩ (fun v3 M2 => ?_)
    refine r_ck (fun h4 => ?_)
    exact r_zret hz hq dX8_isHolder_15 h4 (Nat.le_of_ble_eq_true rfl) (Nat.le_of_ble_eq_true rfl)
  exact key x M' h ⟨rfl, rfl⟩
theorem dX8_isBond_0 : decode cX8_isBond 0 = .ok (.aload_n 0, 1) := by decide +kernel
theorem dX8_isBond_1 : decode cX8_isBond 1 = .ok (.iload_n 1, 1) := by decide +kernel
theorem dX8_isBond_2 : decode cX8_isBond 2 = .ok (.invokevirtual 222, 3) := by decide +kernel
theorem dX8_isBond_5 : decode cX8_isBond 5 = .ok (.ifCond .eq 23, 3) := by decide +kernel
theorem dX8_isBond_8 : decode cX8_isBond 8 = .ok (.iload_n 2, 1) := by decide +kernel
theorem dX8_isBond_9 : decode cX8_isBond 9 = .ok (.i2l, 1) := by decide +kernel
theorem dX8_isBond_10 : decode cX8_isBond 10 = .ok (.lconst 1, 1) := by decide +kernel
theorem dX8_isBond_11 : decode cX8_isBond 11 = .ok (.aload_n 0, 1) := by decide +kernel
theorem dX8_isBond_12 : decode cX8_isBond 12 = .ok (.iload_n 1, 1) := by decide +kernel
theorem dX8_isBond_13 : decode cX8_isBond 13 = .ok (.iconst 0, 1) := by decide +kernel
theorem dX8_isBond_14 : decode cX8_isBond 14 = .ok (.invokevirtual 225, 3) := by decide +kernel
theorem dX8_isBond_17 : decode cX8_isBond 17 = .ok (.i2l, 1) := by decide +kernel
theorem dX8_isBond_18 : decode cX8_isBond 18 = .ok (.invokestatic 83, 3) := by decide +kernel
theorem dX8_isBond_21 : decode cX8_isBond 21 = .ok (.ifCond .eq 7, 3) := by decide +kernel
theorem dX8_isBond_24 : decode cX8_isBond 24 = .ok (.iconst 1, 1) := by decide +kernel
theorem dX8_isBond_25 : decode cX8_isBond 25 = .ok (.goto 4, 3) := by decide +kernel
theorem dX8_isBond_28 : decode cX8_isBond 28 = .ok (.iconst 0, 1) := by decide +kernel
theorem dX8_isBond_29 : decode cX8_isBond 29 = .ok (.ireturn, 1) := by decide +kernel
abbrev rX8_isBond : Room := { frames := 2, cells := 0, slots := 0, locals := 46 }
theorem cal_X8_isBond : CalOk yX8_isBond cX8_isBond 3 (some .boolean) 2 := ⟨wm_6_104, wm_1_9, by decide, by decide, by decide +kernel⟩
def f_X8_isBond (p0 : Nat) (p1 : Int32) (p2 : Int32) (M : Mm) : Option (Int32 × Mm) :=
  ck (gK M p0 = 8) (bd (f_X8_isLoan p0 p1 M) fun v2 M1 =>
  (if v2 = 0 then
    some ((0 : Int32), M1)
  else
    ck (gK M1 p0 = 8) (bd (f_X8_loanOf p0 p1 (0 : Int32) M1) fun v4 M3 =>
    bd (f_X8_within (p2).toInt64 (1 : Int64) (v4).toInt64 M3) fun v6 M5 =>
    (if v6 = 0 then
      some ((0 : Int32), M5)
    else
      some ((1 : Int32), M5)))))
set_option maxRecDepth 20000 in
set_option maxHeartbeats 4000000 in
theorem t_X8_isBond (p0 : Nat) (p1 : Int32) (p2 : Int32) (M : Mm) (x : Int32) (M' : Mm) (h : f_X8_isBond p0 p1 p2 M = some (x, M')) : Ctr yX8_isBond cX8_isBond 3 (some .boolean) rX8_isBond (fun _ => [.ref p0, .int p1, .int p2]) M (zI x) M' := by
  refine ctr_of (plainFor_of_name (by decide)) (fun _ => Nat.le_of_ble_eq_true rfl) (fun z hz hin hq => ?_)
  have key : Sim z 0 [(0, .ref p0), (1, .int p1), (2, .int p2)] [] M 0 0 (f_X8_isBond p0 p1 p2 M) (fun a b => a = x ∧ b = M') := by
    have hq : Ret z zI (fun a b => a = x ∧ b = M') := fun a b e => by rw [e.1, e.2]; exact hq
    unfold f_X8_isBond
    refine r_aload_n hz dX8_isBond_0 0 rfl ?_
    refine r_iload_n hz dX8_isBond_1 1 rfl ?_
    refine r_callVi (As := fun _ => [.int p1]) cl8 hz (fun _ _ h => t_X8_isLoan _ _ _ _ _ h) cal_X8_isLoan dX8_isBond_2 wm_6_79 wm_6_81 wm_p_67 rfl rfl (Nat.le_of_ble_eq_true rfl) ⟨(Nat.le_of_ble_eq_true rfl), (Nat.le_of_ble_eq_true rfl)⟩ ⟨(Nat.le_of_ble_eq_true rfl), (Nat.le_of_ble_eq_true rfl)⟩ (fun v2 M1 => ?_)
    refine r_if_eq (tgt := 28) hz dX8_isBond_5 rfl ?_ ?_
    · refine r_iconst (v := 0) hz dX8_isBond_28 rfl ?_
      exact r_zret hz hq dX8_isBond_29 (Or.inl rfl) (Nat.le_of_ble_eq_true rfl) (Nat.le_of_ble_eq_true rfl)
    · refine r_iload_n hz dX8_isBond_8 2 rfl ?_
      refine r_i2l hz dX8_isBond_9 ?_
      refine r_lconst (v := 1) hz dX8_isBond_10 rfl ?_
      refine r_aload_n hz dX8_isBond_11 0 rfl ?_
      refine r_iload_n hz dX8_isBond_12 1 rfl ?_
      refine r_iconst (v := 0) hz dX8_isBond_13 rfl ?_
      refine r_callVi (As := fun _ => [.int p1, .int (0 : Int32)]) cl8 hz (fun _ _ h => t_X8_loanOf _ _ _ _ _ _ h) cal_X8_loanOf dX8_isBond_14 wm_6_68 wm_6_70 wm_p_66 rfl rfl (Nat.le_of_ble_eq_true rfl) ⟨(Nat.le_of_ble_eq_true rfl), (Nat.le_of_ble_eq_true rfl)⟩ ⟨(Nat.le_of_ble_eq_true rfl), (Nat.le_of_ble_eq_true rfl)⟩ (fun v4 M3 => ?_)
      refine r_i2l hz dX8_isBond_17 ?_
      refine r_callSi (As := fun _ => [.long (p2).toInt64, .long (1 : Int64), .long (v4).toInt64]) hz (fun _ _ h => t_X8_within _ _ _ _ _ _ h) cal_X8_within dX8_isBond_18 wm_5_175 wm_5_176 rfl rfl (Nat.le_of_ble_eq_true rfl) ⟨(Nat.le_of_ble_eq_true rfl), (Nat.le_of_ble_eq_true rfl)⟩ ⟨(Nat.le_of_ble_eq_true rfl), (Nat.le_of_ble_eq_true rfl)⟩ (fun v6 M5 => ?_)
      refine r_if_eq (tgt := 28) hz dX8_isBond_21 rfl ?_ ?_
      · refine r_iconst (v := 0) hz dX8_isBond_28 rfl ?_
        exact r_zret hz hq dX8_isBond_29 (Or.inl rfl) (Nat.le_of_ble_eq_true rfl) (Nat.le_of_ble_eq_true rfl)
      · refine r_iconst (v := 1) hz dX8_isBond_24 rfl ?_
        refine r_goto (tgt := 29) hz dX8_isBond_25 rfl ?_
        exact r_zret hz hq dX8_isBond_29 (Or.inr rfl) (Nat.le_of_ble_eq_true rfl) (Nat.le_of_ble_eq_true rfl)
  exact key x M' h ⟨rfl, rfl⟩
theorem dX8_bondAt_0 : decode cX8_bondAt 0 = .ok (.bipush 60, 2) := by decide +kernel
theorem dX8_bondAt_2 : decode cX8_bondAt 2 = .ok (.iload_n 0, 1) := by decide +kernel
theorem dX8_bondAt_3 : decode cX8_bondAt 3 = .ok (.imul, 1) := by decide +kernel
theorem dX8_bondAt_4 : decode cX8_bondAt 4 = .ok (.iload_n 1, 1) := by decide +kernel
theorem dX8_bondAt_5 : decode cX8_bondAt 5 = .ok (.iadd, 1) := by decide +kernel
theorem dX8_bondAt_6 : decode cX8_bondAt 6 = .ok (.iconst 1, 1) := by decide +kernel
theorem dX8_bondAt_7 : decode cX8_bondAt 7 = .ok (.isub, 1) := by decide +kernel
theorem dX8_bondAt_8 : decode cX8_bondAt 8 = .ok (.ireturn, 1) := by decide +kernel
abbrev rX8_bondAt : Room := { frames := 0, cells := 0, slots := 0, locals := 0 }
theorem cal_X8_bondAt : CalOk yX8_bondAt cX8_bondAt 2 (some .int) 2 := ⟨wm_6_74, wm_1_9, by decide, by decide, by decide +kernel⟩
def f_X8_bondAt (p0 : Int32) (p1 : Int32) (M : Mm) : Option (Int32 × Mm) :=
  some (((((60 : Int32) * p0) + p1) - (1 : Int32)), M)
set_option maxRecDepth 20000 in
set_option maxHeartbeats 4000000 in
theorem t_X8_bondAt (p0 : Int32) (p1 : Int32) (M : Mm) (x : Int32) (M' : Mm) (h : f_X8_bondAt p0 p1 M = some (x, M')) : Ctr yX8_bondAt cX8_bondAt 2 (some .int) rX8_bondAt (fun _ => [.int p0, .int p1]) M (zI x) M' := by
  refine ctr_of (plainFor_of_name (by decide)) (fun _ => Nat.le_of_ble_eq_true rfl) (fun z hz hin hq => ?_)
  have key : Sim z 0 [(0, .int p0), (1, .int p1)] [] M 0 0 (f_X8_bondAt p0 p1 M) (fun a b => a = x ∧ b = M') := by
    have hq : Ret z zI (fun a b => a = x ∧ b = M') := fun a b e => by rw [e.1, e.2]; exact hq
    unfold f_X8_bondAt
    refine r_bipush (v := 60) hz dX8_bondAt_0 rfl ?_
    refine r_iload_n hz dX8_bondAt_2 0 rfl ?_
    refine r_imul hz dX8_bondAt_3 ?_
    refine r_iload_n hz dX8_bondAt_4 1 rfl ?_
    refine r_iadd hz dX8_bondAt_5 ?_
    refine r_iconst (v := 1) hz dX8_bondAt_6 rfl ?_
    refine r_isub hz dX8_bondAt_7 ?_
    exact r_iret hz hq dX8_bondAt_8 (Nat.le_of_ble_eq_true rfl) (Nat.le_of_ble_eq_true rfl)
  exact key x M' h ⟨rfl, rfl⟩
theorem dX8_howMany_0 : decode cX8_howMany 0 = .ok (.iconst 0, 1) := by decide +kernel
theorem dX8_howMany_1 : decode cX8_howMany 1 = .ok (.istore_n 3, 1) := by decide +kernel
theorem dX8_howMany_2 : decode cX8_howMany 2 = .ok (.iconst 1, 1) := by decide +kernel
theorem dX8_howMany_3 : decode cX8_howMany 3 = .ok (.istore 4, 2) := by decide +kernel
theorem dX8_howMany_5 : decode cX8_howMany 5 = .ok (.iload 4, 2) := by decide +kernel
theorem dX8_howMany_7 : decode cX8_howMany 7 = .ok (.aload_n 0, 1) := by decide +kernel
theorem dX8_howMany_8 : decode cX8_howMany 8 = .ok (.iload_n 1, 1) := by decide +kernel
theorem dX8_howMany_9 : decode cX8_howMany 9 = .ok (.iconst 0, 1) := by decide +kernel
theorem dX8_howMany_10 : decode cX8_howMany 10 = .ok (.invokevirtual 225, 3) := by decide +kernel
theorem dX8_howMany_13 : decode cX8_howMany 13 = .ok (.if_icmp .gt 34, 3) := by decide +kernel
theorem dX8_howMany_16 : decode cX8_howMany 16 = .ok (.iload_n 3, 1) := by decide +kernel
theorem dX8_howMany_17 : decode cX8_howMany 17 = .ok (.aload_n 0, 1) := by decide +kernel
theorem dX8_howMany_18 : decode cX8_howMany 18 = .ok (.getfield 20, 3) := by decide +kernel
theorem dX8_howMany_21 : decode cX8_howMany 21 = .ok (.iconst 0, 1) := by decide +kernel
theorem dX8_howMany_22 : decode cX8_howMany 22 = .ok (.iload_n 1, 1) := by decide +kernel
theorem dX8_howMany_23 : decode cX8_howMany 23 = .ok (.iload 4, 2) := by decide +kernel
theorem dX8_howMany_25 : decode cX8_howMany 25 = .ok (.invokestatic 229, 3) := by decide +kernel
theorem dX8_howMany_28 : decode cX8_howMany 28 = .ok (.iadd, 1) := by decide +kernel
theorem dX8_howMany_29 : decode cX8_howMany 29 = .ok (.iaload, 1) := by decide +kernel
theorem dX8_howMany_30 : decode cX8_howMany 30 = .ok (.iload_n 2, 1) := by decide +kernel
theorem dX8_howMany_31 : decode cX8_howMany 31 = .ok (.if_icmp .ne 7, 3) := by decide +kernel
theorem dX8_howMany_34 : decode cX8_howMany 34 = .ok (.iconst 1, 1) := by decide +kernel
theorem dX8_howMany_35 : decode cX8_howMany 35 = .ok (.goto 4, 3) := by decide +kernel
theorem dX8_howMany_38 : decode cX8_howMany 38 = .ok (.iconst 0, 1) := by decide +kernel
theorem dX8_howMany_39 : decode cX8_howMany 39 = .ok (.iadd, 1) := by decide +kernel
theorem dX8_howMany_40 : decode cX8_howMany 40 = .ok (.istore_n 3, 1) := by decide +kernel
theorem dX8_howMany_41 : decode cX8_howMany 41 = .ok (.iinc 4 1, 3) := by decide +kernel
theorem dX8_howMany_44 : decode cX8_howMany 44 = .ok (.goto (-39), 3) := by decide +kernel
theorem dX8_howMany_47 : decode cX8_howMany 47 = .ok (.iload_n 3, 1) := by decide +kernel
theorem dX8_howMany_48 : decode cX8_howMany 48 = .ok (.ireturn, 1) := by decide +kernel
abbrev rX8_howMany : Room := { frames := 1, cells := 0, slots := 0, locals := 22 }
theorem cal_X8_howMany : CalOk yX8_howMany cX8_howMany 5 (some .int) 2 := ⟨wm_6_67, wm_1_9, by decide, by decide, by decide +kernel⟩
def f_X8_howMany_5 : Nat → Nat → Int32 → Int32 → Int32 → Int32 → Mm → Option (Int32 × Mm)
  | 0, _, _, _, _, _, _ => none
  | n + 1, x0, x1, x2, x3, x4, M =>
    ck (gK M x0 = 8) (bd (f_X8_loanOf x0 x1 (0 : Int32) M) fun v2 M1 =>
    (if v2 < x4 then
      some (x3, M1)
    else
      ck (gK M1 x0 = 8) (bR (gR M1 x0 17) fun q3 => bd (f_X8_bondAt x1 x4 M1) fun v5 M4 =>
      ck (gK M4 q3 = 10 ∧ inb ((0 : Int32) + v5) (gN M4 q3)) ((if ¬ (gI M4 q3 (((0 : Int32) + v5)).toNatClampNeg) = x2 then
        nm (x3 + (0 : Int32)) fun v6 =>
        f_X8_howMany_5 n x0 x1 x2 v6 (x4 + (1 : Int32)) M4
      else
        nm (x3 + (1 : Int32)) fun v8 =>
        f_X8_howMany_5 n x0 x1 x2 v8 (x4 + (1 : Int32)) M4)))))
set_option maxRecDepth 20000 in
set_option maxHeartbeats 4000000 in
theorem s_X8_howMany_5 {z : Zt} {K : Int32 → Mm → Prop} (hz : Good z RX8 cX8_howMany 5 rX8_howMany (some .int)) (hq : Ret z zI K) : ∀ (n : Nat) (x0 : Nat) (x1 : Int32) (x2 : Int32) (x3 : Int32) (x4 : Int32) (M : Mm), Sim z 5 [(0, .ref x0), (1, .int x1), (2, .int x2), (3, .int x3), (4, .int x4)] [] M 0 0 (f_X8_howMany_5 n x0 x1 x2 x3 x4 M) K := by
  intro n
  induction n with
  | zero => exact fun _ _ _ _ _ _ => r_none
  | succ n ih =>
    intro x0 x1 x2 x3 x4 M
    unfold f_X8_howMany_5
    refine r_iload hz dX8_howMany_5 4 rfl ?_
    refine r_aload_n hz dX8_howMany_7 0 rfl ?_
    refine r_iload_n hz dX8_howMany_8 1 rfl ?_
    refine r_iconst (v := 0) hz dX8_howMany_9 rfl ?_
    refine r_callVi (As := fun _ => [.int x1, .int (0 : Int32)]) cl8 hz (fun _ _ h => t_X8_loanOf _ _ _ _ _ _ h) cal_X8_loanOf dX8_howMany_10 wm_6_68 wm_6_70 wm_p_66 rfl rfl (Nat.le_of_ble_eq_true rfl) ⟨(Nat.le_of_ble_eq_true rfl), (Nat.le_of_ble_eq_true rfl)⟩ ⟨(Nat.le_of_ble_eq_true rfl), (Nat.le_of_ble_eq_true rfl)⟩ (fun v2 M1 => ?_)
    refine r_icmp_gt (tgt := 47) hz dX8_howMany_13 rfl ?_ ?_
    · refine r_iload_n hz dX8_howMany_47 3 rfl ?_
      exact r_iret hz hq dX8_howMany_48 (Nat.le_of_ble_eq_true rfl) (Nat.le_of_ble_eq_true rfl)
    · refine r_iload_n hz dX8_howMany_16 3 rfl ?_
      refine r_aload_n hz dX8_howMany_17 0 rfl ?_
      refine r_getR (j := 17) cl8 hz dX8_howMany_18 (by decide) wm_5_73 rfl (fun q3 => ?_)
      refine r_iconst (v := 0) hz dX8_howMany_21 rfl ?_
      refine r_iload_n hz dX8_howMany_22 1 rfl ?_
      refine r_iload hz dX8_howMany_23 4 rfl ?_
      refine r_callSi (As := fun _ => [.int x1, .int x4]) hz (fun _ _ h => t_X8_bondAt _ _ _ _ _ h) cal_X8_bondAt dX8_howMany_25 wm_6_72 wm_6_73 rfl rfl (Nat.le_of_ble_eq_true rfl) ⟨(Nat.le_of_ble_eq_true rfl), (Nat.le_of_ble_eq_true rfl)⟩ ⟨(Nat.le_of_ble_eq_true rfl), (Nat.le_of_ble_eq_true rfl)⟩ (fun v5 M4 => ?_)
      refine r_iadd hz dX8_howMany_28 ?_
      refine r_iald hz dX8_howMany_29 ?_
      refine r_iload_n hz dX8_howMany_30 2 rfl ?_
      refine r_icmp_ne (tgt := 38) hz dX8_howMany_31 rfl ?_ ?_
      · refine r_iconst (v := 0) hz dX8_howMany_38 rfl ?_
        refine r_iadd hz dX8_howMany_39 ?_
        refine r_nmi (fun v6 => ?_)
        refine r_istore_n (lv' := [(3, .int v6), (0, .ref x0), (1, .int x1), (2, .int x2), (4, .int x4)]) hz dX8_howMany_40 (by decide) rfl ?_
        refine r_iinc (v := (x4 + (1 : Int32))) (lv' := [(4, .int (x4 + (1 : Int32))), (3, .int v6), (0, .ref x0), (1, .int x1), (2, .int x2)]) hz dX8_howMany_41 4 rfl rfl (by decide) rfl ?_
        refine r_goto (tgt := 5) hz dX8_howMany_44 rfl ?_
        refine r_sub [2, 3, 4, 1, 0] rfl ?_
        exact ih x0 x1 x2 v6 (x4 + (1 : Int32)) M4
      · refine r_iconst (v := 1) hz dX8_howMany_34 rfl ?_
        refine r_goto (tgt := 39) hz dX8_howMany_35 rfl ?_
        refine r_iadd hz dX8_howMany_39 ?_
        refine r_nmi (fun v8 => ?_)
        refine r_istore_n (lv' := [(3, .int v8), (0, .ref x0), (1, .int x1), (2, .int x2), (4, .int x4)]) hz dX8_howMany_40 (by decide) rfl ?_
        refine r_iinc (v := (x4 + (1 : Int32))) (lv' := [(4, .int (x4 + (1 : Int32))), (3, .int v8), (0, .ref x0), (1, .int x1), (2, .int x2)]) hz dX8_howMany_41 4 rfl rfl (by decide) rfl ?_
        refine r_goto (tgt := 5) hz dX8_howMany_44 rfl ?_
        refine r_sub [2, 3, 4, 1, 0] rfl ?_
        exact ih x0 x1 x2 v8 (x4 + (1 : Int32)) M4
def f_X8_howMany (p0 : Nat) (p1 : Int32) (p2 : Int32) (M : Mm) : Option (Int32 × Mm) :=
  f_X8_howMany_5 FU p0 p1 p2 (0 : Int32) (1 : Int32) M
set_option maxRecDepth 20000 in
set_option maxHeartbeats 4000000 in
theorem t_X8_howMany (p0 : Nat) (p1 : Int32) (p2 : Int32) (M : Mm) (x : Int32) (M' : Mm) (h : f_X8_howMany p0 p1 p2 M = some (x, M')) : Ctr yX8_howMany cX8_howMany 5 (some .int) rX8_howMany (fun _ => [.ref p0, .int p1, .int p2]) M (zI x) M' := by
  refine ctr_of (plainFor_of_name (by decide)) (fun _ => Nat.le_of_ble_eq_true rfl) (fun z hz hin hq => ?_)
  have key : Sim z 0 [(0, .ref p0), (1, .int p1), (2, .int p2)] [] M 0 0 (f_X8_howMany p0 p1 p2 M) (fun a b => a = x ∧ b = M') := by
    have hq : Ret z zI (fun a b => a = x ∧ b = M') := fun a b e => by rw [e.1, e.2]; exact hq
    unfold f_X8_howMany
    refine r_iconst (v := 0) hz dX8_howMany_0 rfl ?_
    refine r_istore_n (lv' := [(3, .int (0 : Int32)), (0, .ref p0), (1, .int p1), (2, .int p2)]) hz dX8_howMany_1 (by decide) rfl ?_
    refine r_iconst (v := 1) hz dX8_howMany_2 rfl ?_
    refine r_istore (lv' := [(4, .int (1 : Int32)), (3, .int (0 : Int32)), (0, .ref p0), (1, .int p1), (2, .int p2)]) hz dX8_howMany_3 (by decide) rfl ?_
    refine r_sub [2, 3, 4, 1, 0] rfl ?_
    exact s_X8_howMany_5 hz hq FU p0 p1 p2 (0 : Int32) (1 : Int32) M
  exact key x M' h ⟨rfl, rfl⟩
theorem dX8_allSo_0 : decode cX8_allSo 0 = .ok (.iconst 0, 1) := by decide +kernel
theorem dX8_allSo_1 : decode cX8_allSo 1 = .ok (.istore_n 2, 1) := by decide +kernel
theorem dX8_allSo_2 : decode cX8_allSo 2 = .ok (.iconst 0, 1) := by decide +kernel
theorem dX8_allSo_3 : decode cX8_allSo 3 = .ok (.istore_n 3, 1) := by decide +kernel
theorem dX8_allSo_4 : decode cX8_allSo 4 = .ok (.iload_n 3, 1) := by decide +kernel
theorem dX8_allSo_5 : decode cX8_allSo 5 = .ok (.aload_n 0, 1) := by decide +kernel
theorem dX8_allSo_6 : decode cX8_allSo 6 = .ok (.getfield 13, 3) := by decide +kernel
theorem dX8_allSo_9 : decode cX8_allSo 9 = .ok (.iconst 0, 1) := by decide +kernel
theorem dX8_allSo_10 : decode cX8_allSo 10 = .ok (.iaload, 1) := by decide +kernel
theorem dX8_allSo_11 : decode cX8_allSo 11 = .ok (.if_icmp .ge 18, 3) := by decide +kernel
theorem dX8_allSo_14 : decode cX8_allSo 14 = .ok (.iload_n 2, 1) := by decide +kernel
theorem dX8_allSo_15 : decode cX8_allSo 15 = .ok (.aload_n 0, 1) := by decide +kernel
theorem dX8_allSo_16 : decode cX8_allSo 16 = .ok (.iload_n 3, 1) := by decide +kernel
theorem dX8_allSo_17 : decode cX8_allSo 17 = .ok (.iload_n 1, 1) := by decide +kernel
theorem dX8_allSo_18 : decode cX8_allSo 18 = .ok (.invokevirtual 232, 3) := by decide +kernel
theorem dX8_allSo_21 : decode cX8_allSo 21 = .ok (.iadd, 1) := by decide +kernel
theorem dX8_allSo_22 : decode cX8_allSo 22 = .ok (.istore_n 2, 1) := by decide +kernel
theorem dX8_allSo_23 : decode cX8_allSo 23 = .ok (.iinc 3 1, 3) := by decide +kernel
theorem dX8_allSo_26 : decode cX8_allSo 26 = .ok (.goto (-22), 3) := by decide +kernel
theorem dX8_allSo_29 : decode cX8_allSo 29 = .ok (.iload_n 2, 1) := by decide +kernel
theorem dX8_allSo_30 : decode cX8_allSo 30 = .ok (.ireturn, 1) := by decide +kernel
abbrev rX8_allSo : Room := { frames := 2, cells := 0, slots := 0, locals := 46 }
theorem cal_X8_allSo : CalOk yX8_allSo cX8_allSo 4 (some .int) 1 := ⟨wm_6_63, wm_1_9, by decide, by decide, by decide +kernel⟩
def f_X8_allSo_4 : Nat → Nat → Int32 → Int32 → Int32 → Mm → Option (Int32 × Mm)
  | 0, _, _, _, _, _ => none
  | n + 1, x0, x1, x2, x3, M =>
    ck (gK M x0 = 8) (bR (gR M x0 11) fun q1 => ck (gK M q1 = 10 ∧ inb (0 : Int32) (gN M q1)) ((if (gI M q1 ((0 : Int32)).toNatClampNeg) ≤ x3 then
      some (x2, M)
    else
      ck (gK M x0 = 8) (bd (f_X8_howMany x0 x3 x1 M) fun v3 M2 =>
      nm (x2 + v3) fun v4 =>
      f_X8_allSo_4 n x0 x1 v4 (x3 + (1 : Int32)) M2))))
set_option maxRecDepth 20000 in
set_option maxHeartbeats 4000000 in
theorem s_X8_allSo_4 {z : Zt} {K : Int32 → Mm → Prop} (hz : Good z RX8 cX8_allSo 4 rX8_allSo (some .int)) (hq : Ret z zI K) : ∀ (n : Nat) (x0 : Nat) (x1 : Int32) (x2 : Int32) (x3 : Int32) (M : Mm), Sim z 4 [(0, .ref x0), (1, .int x1), (2, .int x2), (3, .int x3)] [] M 0 0 (f_X8_allSo_4 n x0 x1 x2 x3 M) K := by
  intro n
  induction n with
  | zero => exact fun _ _ _ _ _ => r_none
  | succ n ih =>
    intro x0 x1 x2 x3 M
    unfold f_X8_allSo_4
    refine r_iload_n hz dX8_allSo_4 3 rfl ?_
    refine r_aload_n hz dX8_allSo_5 0 rfl ?_
    refine r_getR (j := 11) cl8 hz dX8_allSo_6 (by decide) wm_5_67 rfl (fun q1 => ?_)
    refine r_iconst (v := 0) hz dX8_allSo_9 rfl ?_
    refine r_iald hz dX8_allSo_10 ?_
    refine r_icmp_ge (tgt := 29) hz dX8_allSo_11 rfl ?_ ?_
    · refine r_iload_n hz dX8_allSo_29 2 rfl ?_
      exact r_iret hz hq dX8_allSo_30 (Nat.le_of_ble_eq_true rfl) (Nat.le_of_ble_eq_true rfl)
    · refine r_iload_n hz dX8_allSo_14 2 rfl ?_
      refine r_aload_n hz dX8_allSo_15 0 rfl ?_
      refine r_iload_n hz dX8_allSo_16 3 rfl ?_
      refine r_iload_n hz dX8_allSo_17 1 rfl ?_
      refine r_callVi (As := fun _ => [.int x3, .int x1]) cl8 hz (fun _ _ h => t_X8_howMany _ _ _ _ _ _ h) cal_X8_howMany dX8_allSo_18 wm_6_64 wm_6_66 wm_p_65 rfl rfl (Nat.le_of_ble_eq_true rfl) ⟨(Nat.le_of_ble_eq_true rfl), (Nat.le_of_ble_eq_true rfl)⟩ ⟨(Nat.le_of_ble_eq_true rfl), (Nat.le_of_ble_eq_true rfl)⟩ (fun v3 M2 => ?_)
      refine r_iadd hz dX8_allSo_21 ?_
      refine r_nmi (fun v4 => ?_)
      refine r_istore_n (lv' := [(2, .int v4), (0, .ref x0), (1, .int x1), (3, .int x3)]) hz dX8_allSo_22 (by decide) rfl ?_
      refine r_iinc (v := (x3 + (1 : Int32))) (lv' := [(3, .int (x3 + (1 : Int32))), (2, .int v4), (0, .ref x0), (1, .int x1)]) hz dX8_allSo_23 3 rfl rfl (by decide) rfl ?_
      refine r_goto (tgt := 4) hz dX8_allSo_26 rfl ?_
      refine r_sub [2, 3, 1, 0] rfl ?_
      exact ih x0 x1 v4 (x3 + (1 : Int32)) M2
def f_X8_allSo (p0 : Nat) (p1 : Int32) (M : Mm) : Option (Int32 × Mm) :=
  f_X8_allSo_4 FU p0 p1 (0 : Int32) (0 : Int32) M
set_option maxRecDepth 20000 in
set_option maxHeartbeats 4000000 in
theorem t_X8_allSo (p0 : Nat) (p1 : Int32) (M : Mm) (x : Int32) (M' : Mm) (h : f_X8_allSo p0 p1 M = some (x, M')) : Ctr yX8_allSo cX8_allSo 4 (some .int) rX8_allSo (fun _ => [.ref p0, .int p1]) M (zI x) M' := by
  refine ctr_of (plainFor_of_name (by decide)) (fun _ => Nat.le_of_ble_eq_true rfl) (fun z hz hin hq => ?_)
  have key : Sim z 0 [(0, .ref p0), (1, .int p1)] [] M 0 0 (f_X8_allSo p0 p1 M) (fun a b => a = x ∧ b = M') := by
    have hq : Ret z zI (fun a b => a = x ∧ b = M') := fun a b e => by rw [e.1, e.2]; exact hq
    unfold f_X8_allSo
    refine r_iconst (v := 0) hz dX8_allSo_0 rfl ?_
    refine r_istore_n (lv' := [(2, .int (0 : Int32)), (0, .ref p0), (1, .int p1)]) hz dX8_allSo_1 (by decide) rfl ?_
    refine r_iconst (v := 0) hz dX8_allSo_2 rfl ?_
    refine r_istore_n (lv' := [(3, .int (0 : Int32)), (2, .int (0 : Int32)), (0, .ref p0), (1, .int p1)]) hz dX8_allSo_3 (by decide) rfl ?_
    refine r_sub [2, 3, 1, 0] rfl ?_
    exact s_X8_allSo_4 hz hq FU p0 p1 (0 : Int32) (0 : Int32) M
  exact key x M' h ⟨rfl, rfl⟩
theorem dX8_count_0 : decode cX8_count 0 = .ok (.aload_n 0, 1) := by decide +kernel
theorem dX8_count_1 : decode cX8_count 1 = .ok (.iconst 0, 1) := by decide +kernel
theorem dX8_count_2 : decode cX8_count 2 = .ok (.putfield 46, 3) := by decide +kernel
theorem dX8_count_5 : decode cX8_count 5 = .ok (.iload_n 1, 1) := by decide +kernel
theorem dX8_count_6 : decode cX8_count 6 = .ok (.i2l, 1) := by decide +kernel
theorem dX8_count_7 : decode cX8_count 7 = .ok (.ldc2_w 235, 3) := by decide +kernel
theorem dX8_count_10 : decode cX8_count 10 = .ok (.ldc2_w 237, 3) := by decide +kernel
theorem dX8_count_13 : decode cX8_count 13 = .ok (.invokestatic 83, 3) := by decide +kernel
theorem dX8_count_16 : decode cX8_count 16 = .ok (.ifCond .eq 11, 3) := by decide +kernel
theorem dX8_count_19 : decode cX8_count 19 = .ok (.aload_n 0, 1) := by decide +kernel
theorem dX8_count_20 : decode cX8_count 20 = .ok (.iload_n 1, 1) := by decide +kernel
theorem dX8_count_21 : decode cX8_count 21 = .ok (.iconst 3, 1) := by decide +kernel
theorem dX8_count_22 : decode cX8_count 22 = .ok (.isub, 1) := by decide +kernel
theorem dX8_count_23 : decode cX8_count 23 = .ok (.invokevirtual 239, 3) := by decide +kernel
theorem dX8_count_26 : decode cX8_count 26 = .ok (.ireturn, 1) := by decide +kernel
theorem dX8_count_27 : decode cX8_count 27 = .ok (.iload_n 1, 1) := by decide +kernel
theorem dX8_count_28 : decode cX8_count 28 = .ok (.tableswitch 123 0 10 #[60, 67, 74, 123, 123, 123, 123, 123, 83, 88, 118], 60) := by decide +kernel
theorem dX8_count_88 : decode cX8_count 88 = .ok (.aload_n 0, 1) := by decide +kernel
theorem dX8_count_89 : decode cX8_count 89 = .ok (.getfield 13, 3) := by decide +kernel
theorem dX8_count_92 : decode cX8_count 92 = .ok (.iconst 0, 1) := by decide +kernel
theorem dX8_count_93 : decode cX8_count 93 = .ok (.iaload, 1) := by decide +kernel
theorem dX8_count_94 : decode cX8_count 94 = .ok (.ireturn, 1) := by decide +kernel
theorem dX8_count_95 : decode cX8_count 95 = .ok (.aload_n 0, 1) := by decide +kernel
theorem dX8_count_96 : decode cX8_count 96 = .ok (.getfield 13, 3) := by decide +kernel
theorem dX8_count_99 : decode cX8_count 99 = .ok (.iconst 1, 1) := by decide +kernel
theorem dX8_count_100 : decode cX8_count 100 = .ok (.iaload, 1) := by decide +kernel
theorem dX8_count_101 : decode cX8_count 101 = .ok (.ireturn, 1) := by decide +kernel
theorem dX8_count_102 : decode cX8_count 102 = .ok (.aload_n 0, 1) := by decide +kernel
theorem dX8_count_103 : decode cX8_count 103 = .ok (.getfield 20, 3) := by decide +kernel
theorem dX8_count_106 : decode cX8_count 106 = .ok (.sipush 1206, 3) := by decide +kernel
theorem dX8_count_109 : decode cX8_count 109 = .ok (.iaload, 1) := by decide +kernel
theorem dX8_count_110 : decode cX8_count 110 = .ok (.ireturn, 1) := by decide +kernel
theorem dX8_count_111 : decode cX8_count 111 = .ok (.aload_n 0, 1) := by decide +kernel
theorem dX8_count_112 : decode cX8_count 112 = .ok (.getfield 219, 3) := by decide +kernel
theorem dX8_count_115 : decode cX8_count 115 = .ok (.ireturn, 1) := by decide +kernel
theorem dX8_count_116 : decode cX8_count 116 = .ok (.aload_n 0, 1) := by decide +kernel
theorem dX8_count_117 : decode cX8_count 117 = .ok (.getfield 29, 3) := by decide +kernel
theorem dX8_count_120 : decode cX8_count 120 = .ok (.iconst 0, 1) := by decide +kernel
theorem dX8_count_121 : decode cX8_count 121 = .ok (.baload, 1) := by decide +kernel
theorem dX8_count_122 : decode cX8_count 122 = .ok (.ifCond .eq 7, 3) := by decide +kernel
theorem dX8_count_125 : decode cX8_count 125 = .ok (.iconst 1, 1) := by decide +kernel
theorem dX8_count_126 : decode cX8_count 126 = .ok (.goto 4, 3) := by decide +kernel
theorem dX8_count_129 : decode cX8_count 129 = .ok (.iconst 0, 1) := by decide +kernel
theorem dX8_count_130 : decode cX8_count 130 = .ok (.aload_n 0, 1) := by decide +kernel
theorem dX8_count_131 : decode cX8_count 131 = .ok (.getfield 29, 3) := by decide +kernel
theorem dX8_count_134 : decode cX8_count 134 = .ok (.iconst 1, 1) := by decide +kernel
theorem dX8_count_135 : decode cX8_count 135 = .ok (.baload, 1) := by decide +kernel
theorem dX8_count_136 : decode cX8_count 136 = .ok (.ifCond .eq 7, 3) := by decide +kernel
theorem dX8_count_139 : decode cX8_count 139 = .ok (.iconst 1, 1) := by decide +kernel
theorem dX8_count_140 : decode cX8_count 140 = .ok (.goto 4, 3) := by decide +kernel
theorem dX8_count_143 : decode cX8_count 143 = .ok (.iconst 0, 1) := by decide +kernel
theorem dX8_count_144 : decode cX8_count 144 = .ok (.iadd, 1) := by decide +kernel
theorem dX8_count_145 : decode cX8_count 145 = .ok (.ireturn, 1) := by decide +kernel
theorem dX8_count_146 : decode cX8_count 146 = .ok (.aload_n 0, 1) := by decide +kernel
theorem dX8_count_147 : decode cX8_count 147 = .ok (.getfield 50, 3) := by decide +kernel
theorem dX8_count_150 : decode cX8_count 150 = .ok (.ireturn, 1) := by decide +kernel
theorem dX8_count_151 : decode cX8_count 151 = .ok (.iconst (-1), 1) := by decide +kernel
theorem dX8_count_152 : decode cX8_count 152 = .ok (.ireturn, 1) := by decide +kernel
abbrev rX8_count : Room := { frames := 3, cells := 0, slots := 0, locals := 69 }
theorem cal_X8_count : CalOk yX8_count cX8_count 2 (some .int) 1 := ⟨wm_6_57, wm_1_9, by decide, by decide, by decide +kernel⟩
def f_X8_count (p0 : Nat) (p1 : Int32) (M : Mm) : Option (Int32 × Mm) :=
  ck (gK M p0 = 8) (nm (sI M p0 0 (0 : Int32)) fun M1 =>
  bd (f_X8_within (p1).toInt64 (3 : Int64) (7 : Int64) M1) fun v3 M2 =>
  (if v3 = 0 then
    (if p1 = (0 : Int32) then
      ck (gK M2 p0 = 8) (bR (gR M2 p0 11) fun q4 => ck (gK M2 q4 = 10 ∧ inb (0 : Int32) (gN M2 q4)) (some ((gI M2 q4 ((0 : Int32)).toNatClampNeg), M2)))
    else
    (if p1 = (1 : Int32) then
      ck (gK M2 p0 = 8) (bR (gR M2 p0 11) fun q5 => ck (gK M2 q5 = 10 ∧ inb (1 : Int32) (gN M2 q5)) (some ((gI M2 q5 ((1 : Int32)).toNatClampNeg), M2)))
    else
    (if p1 = (2 : Int32) then
      ck (gK M2 p0 = 8) (bR (gR M2 p0 17) fun q6 => ck (gK M2 q6 = 10 ∧ inb (1206 : Int32) (gN M2 q6)) (some ((gI M2 q6 ((1206 : Int32)).toNatClampNeg), M2)))
    else
    (if p1 = (3 : Int32) then
      some ((-1 : Int32), M2)
    else
    (if p1 = (4 : Int32) then
      some ((-1 : Int32), M2)
    else
    (if p1 = (5 : Int32) then
      some ((-1 : Int32), M2)
    else
    (if p1 = (6 : Int32) then
      some ((-1 : Int32), M2)
    else
    (if p1 = (7 : Int32) then
      some ((-1 : Int32), M2)
    else
    (if p1 = (8 : Int32) then
      ck (gK M2 p0 = 8) (some ((gI M2 p0 23), M2))
    else
    (if p1 = (9 : Int32) then
      ck (gK M2 p0 = 8) (bR (gR M2 p0 25) fun q7 => ck (gK M2 q7 = 11 ∧ inb (0 : Int32) (gN M2 q7)) ((if (gI M2 q7 ((0 : Int32)).toNatClampNeg) = 0 then
        ck (gK M2 p0 = 8) (bR (gR M2 p0 25) fun q8 => ck (gK M2 q8 = 11 ∧ inb (1 : Int32) (gN M2 q8)) ((if (gI M2 q8 ((1 : Int32)).toNatClampNeg) = 0 then
          some (((0 : Int32) + (0 : Int32)), M2)
        else
          some (((0 : Int32) + (1 : Int32)), M2))))
      else
        ck (gK M2 p0 = 8) (bR (gR M2 p0 25) fun q9 => ck (gK M2 q9 = 11 ∧ inb (1 : Int32) (gN M2 q9)) ((if (gI M2 q9 ((1 : Int32)).toNatClampNeg) = 0 then
          some (((1 : Int32) + (0 : Int32)), M2)
        else
          some (((1 : Int32) + (1 : Int32)), M2)))))))
    else
    (if p1 = (10 : Int32) then
      ck (gK M2 p0 = 8) (some ((gI M2 p0 2), M2))
    else
      some ((-1 : Int32), M2))))))))))))
  else
    ck (gK M2 p0 = 8) (bd (f_X8_allSo p0 (p1 - (3 : Int32)) M2) fun v11 M10 =>
    some (v11, M10))))
set_option maxRecDepth 20000 in
set_option maxHeartbeats 4000000 in
theorem t_X8_count (p0 : Nat) (p1 : Int32) (M : Mm) (x : Int32) (M' : Mm) (h : f_X8_count p0 p1 M = some (x, M')) : Ctr yX8_count cX8_count 2 (some .int) rX8_count (fun _ => [.ref p0, .int p1]) M (zI x) M' := by
  refine ctr_of (plainFor_of_name (by decide)) (fun _ => Nat.le_of_ble_eq_true rfl) (fun z hz hin hq => ?_)
  have key : Sim z 0 [(0, .ref p0), (1, .int p1)] [] M 0 0 (f_X8_count p0 p1 M) (fun a b => a = x ∧ b = M') := by
    have hq : Ret z zI (fun a b => a = x ∧ b = M') := fun a b e => by rw [e.1, e.2]; exact hq
    unfold f_X8_count
    refine r_aload_n hz dX8_count_0 0 rfl ?_
    refine r_iconst (v := 0) hz dX8_count_1 rfl ?_
    refine r_putI (j := 0) cl8 hz dX8_count_2 (by decide) wm_5_56 (Or.inl rfl) rfl rfl rfl ?_
    refine r_nmM (fun M1 => ?_)
    refine r_iload_n hz dX8_count_5 1 rfl ?_
    refine r_i2l hz dX8_count_6 ?_
    refine r_ldc2 (v := 3) hz dX8_count_7 wm_6_58 ?_
    refine r_ldc2 (v := 7) hz dX8_count_10 wm_6_59 ?_
    refine r_callSi (As := fun _ => [.long (p1).toInt64, .long (3 : Int64), .long (7 : Int64)]) hz (fun _ _ h => t_X8_within _ _ _ _ _ _ h) cal_X8_within dX8_count_13 wm_5_175 wm_5_176 rfl rfl (Nat.le_of_ble_eq_true rfl) ⟨(Nat.le_of_ble_eq_true rfl), (Nat.le_of_ble_eq_true rfl)⟩ ⟨(Nat.le_of_ble_eq_true rfl), (Nat.le_of_ble_eq_true rfl)⟩ (fun v3 M2 => ?_)
    refine r_if_eq (tgt := 27) hz dX8_count_16 rfl ?_ ?_
    · refine r_iload_n hz dX8_count_27 1 rfl ?_
      refine r_swc (v := 0) (tgt := 88) hz dX8_count_28 (by decide) (by decide) rfl rfl ?_ (fun n0 => ?_)
      · refine r_aload_n hz dX8_count_88 0 rfl ?_
        refine r_getR (j := 11) cl8 hz dX8_count_89 (by decide) wm_5_67 rfl (fun q4 => ?_)
        refine r_iconst (v := 0) hz dX8_count_92 rfl ?_
        refine r_iald hz dX8_count_93 ?_
        exact r_iret hz hq dX8_count_94 (Nat.le_of_ble_eq_true rfl) (Nat.le_of_ble_eq_true rfl)
      refine r_swc (v := 1) (tgt := 95) hz dX8_count_28 (by decide) (by decide) rfl rfl ?_ (fun n1 => ?_)
      · refine r_aload_n hz dX8_count_95 0 rfl ?_
        refine r_getR (j := 11) cl8 hz dX8_count_96 (by decide) wm_5_67 rfl (fun q5 => ?_)
        refine r_iconst (v := 1) hz dX8_count_99 rfl ?_
        refine r_iald hz dX8_count_100 ?_
        exact r_iret hz hq dX8_count_101 (Nat.le_of_ble_eq_true rfl) (Nat.le_of_ble_eq_true rfl)
      refine r_swc (v := 2) (tgt := 102) hz dX8_count_28 (by decide) (by decide) rfl rfl ?_ (fun n2 => ?_)
      · refine r_aload_n hz dX8_count_102 0 rfl ?_
        refine r_getR (j := 17) cl8 hz dX8_count_103 (by decide) wm_5_73 rfl (fun q6 => ?_)
        refine r_sipush (v := 1206) hz dX8_count_106 rfl ?_
        refine r_iald hz dX8_count_109 ?_
        exact r_iret hz hq dX8_count_110 (Nat.le_of_ble_eq_true rfl) (Nat.le_of_ble_eq_true rfl)
      refine r_swc (v := 3) (tgt := 151) hz dX8_count_28 (by decide) (by decide) rfl rfl ?_ (fun n3 => ?_)
      · refine r_iconst (v := -1) hz dX8_count_151 rfl ?_
        exact r_iret hz hq dX8_count_152 (Nat.le_of_ble_eq_true rfl) (Nat.le_of_ble_eq_true rfl)
      refine r_swc (v := 4) (tgt := 151) hz dX8_count_28 (by decide) (by decide) rfl rfl ?_ (fun n4 => ?_)
      · refine r_iconst (v := -1) hz dX8_count_151 rfl ?_
        exact r_iret hz hq dX8_count_152 (Nat.le_of_ble_eq_true rfl) (Nat.le_of_ble_eq_true rfl)
      refine r_swc (v := 5) (tgt := 151) hz dX8_count_28 (by decide) (by decide) rfl rfl ?_ (fun n5 => ?_)
      · refine r_iconst (v := -1) hz dX8_count_151 rfl ?_
        exact r_iret hz hq dX8_count_152 (Nat.le_of_ble_eq_true rfl) (Nat.le_of_ble_eq_true rfl)
      refine r_swc (v := 6) (tgt := 151) hz dX8_count_28 (by decide) (by decide) rfl rfl ?_ (fun n6 => ?_)
      · refine r_iconst (v := -1) hz dX8_count_151 rfl ?_
        exact r_iret hz hq dX8_count_152 (Nat.le_of_ble_eq_true rfl) (Nat.le_of_ble_eq_true rfl)
      refine r_swc (v := 7) (tgt := 151) hz dX8_count_28 (by decide) (by decide) rfl rfl ?_ (fun n7 => ?_)
      · refine r_iconst (v := -1) hz dX8_count_151 rfl ?_
        exact r_iret hz hq dX8_count_152 (Nat.le_of_ble_eq_true rfl) (Nat.le_of_ble_eq_true rfl)
      refine r_swc (v := 8) (tgt := 111) hz dX8_count_28 (by decide) (by decide) rfl rfl ?_ (fun n8 => ?_)
      · refine r_aload_n hz dX8_count_111 0 rfl ?_
        refine r_getI (j := 23) cl8 hz dX8_count_112 (by decide) wm_5_79 rfl ?_
        exact r_iret hz hq dX8_count_115 (Nat.le_of_ble_eq_true rfl) (Nat.le_of_ble_eq_true rfl)
      refine r_swc (v := 9) (tgt := 116) hz dX8_count_28 (by decide) (by decide) rfl rfl ?_ (fun n9 => ?_)
      · refine r_aload_n hz dX8_count_116 0 rfl ?_
        refine r_getR (j := 25) cl8 hz dX8_count_117 (by decide) wm_5_81 rfl (fun q7 => ?_)
        refine r_iconst (v := 0) hz dX8_count_120 rfl ?_
        refine r_zald hz dX8_count_121 ?_
        refine r_if_eq (tgt := 129) hz dX8_count_122 rfl ?_ ?_
        · refine r_iconst (v := 0) hz dX8_count_129 rfl ?_
          refine r_aload_n hz dX8_count_130 0 rfl ?_
          refine r_getR (j := 25) cl8 hz dX8_count_131 (by decide) wm_5_81 rfl (fun q8 => ?_)
          refine r_iconst (v := 1) hz dX8_count_134 rfl ?_
          refine r_zald hz dX8_count_135 ?_
          refine r_if_eq (tgt := 143) hz dX8_count_136 rfl ?_ ?_
          · refine r_iconst (v := 0) hz dX8_count_143 rfl ?_
            refine r_iadd hz dX8_count_144 ?_
            exact r_iret hz hq dX8_count_145 (Nat.le_of_ble_eq_true rfl) (Nat.le_of_ble_eq_true rfl)
          · refine r_iconst (v := 1) hz dX8_count_139 rfl ?_
            refine r_goto (tgt := 144) hz dX8_count_140 rfl ?_
            refine r_iadd hz dX8_count_144 ?_
            exact r_iret hz hq dX8_count_145 (Nat.le_of_ble_eq_true rfl) (Nat.le_of_ble_eq_true rfl)
        · refine r_iconst (v := 1) hz dX8_count_125 rfl ?_
          refine r_goto (tgt := 130) hz dX8_count_126 rfl ?_
          refine r_aload_n hz dX8_count_130 0 rfl ?_
          refine r_getR (j := 25) cl8 hz dX8_count_131 (by decide) wm_5_81 rfl (fun q9 => ?_)
          refine r_iconst (v := 1) hz dX8_count_134 rfl ?_
          refine r_zald hz dX8_count_135 ?_
          refine r_if_eq (tgt := 143) hz dX8_count_136 rfl ?_ ?_
          · refine r_iconst (v := 0) hz dX8_count_143 rfl ?_
            refine r_iadd hz dX8_count_144 ?_
            exact r_iret hz hq dX8_count_145 (Nat.le_of_ble_eq_true rfl) (Nat.le_of_ble_eq_true rfl)
          · refine r_iconst (v := 1) hz dX8_count_139 rfl ?_
            refine r_goto (tgt := 144) hz dX8_count_140 rfl ?_
            refine r_iadd hz dX8_count_144 ?_
            exact r_iret hz hq dX8_count_145 (Nat.le_of_ble_eq_true rfl) (Nat.le_of_ble_eq_true rfl)
      refine r_swc (v := 10) (tgt := 146) hz dX8_count_28 (by decide) (by decide) rfl rfl ?_ (fun n10 => ?_)
      · refine r_aload_n hz dX8_count_146 0 rfl ?_
        refine r_getI (j := 2) cl8 hz dX8_count_147 (by decide) wm_5_58 rfl ?_
        exact r_iret hz hq dX8_count_150 (Nat.le_of_ble_eq_true rfl) (Nat.le_of_ble_eq_true rfl)
      refine r_swd (tgt := 151) hz dX8_count_28 (by have n0q := lv_neT n0 (show (0 : Int32).toInt = 0 from rfl); have n1q := lv_neT n1 (show (1 : Int32).toInt = 1 from rfl); have n2q := lv_neT n2 (show (2 : Int32).toInt = 2 from rfl); have n3q := lv_neT n3 (show (3 : Int32).toInt = 3 from rfl); have n4q := lv_neT n4 (show (4 : Int32).toInt = 4 from rfl); have n5q := lv_neT n5 (show (5 : Int32).toInt = 5 from rfl); have n6q := lv_neT n6 (show (6 : Int32).toInt = 6 from rfl); have n7q := lv_neT n7 (show (7 : Int32).toInt = 7 from rfl); have n8q := lv_neT n8 (show (8 : Int32).toInt = 8 from rfl); have n9q := lv_neT n9 (show (9 : Int32).toInt = 9 from rfl); have n10q := lv_neT n10 (show (10 : Int32).toInt = 10 from rfl); omega) rfl ?_
      refine r_iconst (v := -1) hz dX8_count_151 rfl ?_
      exact r_iret hz hq dX8_count_152 (Nat.le_of_ble_eq_true rfl) (Nat.le_of_ble_eq_true rfl)
    · refine r_aload_n hz dX8_count_19 0 rfl ?_
      refine r_iload_n hz dX8_count_20 1 rfl ?_
      refine r_iconst (v := 3) hz dX8_count_21 rfl ?_
      refine r_isub hz dX8_count_22 ?_
      refine r_callVi (As := fun _ => [.int (p1 - (3 : Int32))]) cl8 hz (fun _ _ h => t_X8_allSo _ _ _ _ _ h) cal_X8_allSo dX8_count_23 wm_6_60 wm_6_62 wm_p_64 rfl rfl (Nat.le_of_ble_eq_true rfl) ⟨(Nat.le_of_ble_eq_true rfl), (Nat.le_of_ble_eq_true rfl)⟩ ⟨(Nat.le_of_ble_eq_true rfl), (Nat.le_of_ble_eq_true rfl)⟩ (fun v11 M10 => ?_)
      exact r_iret hz hq dX8_count_26 (Nat.le_of_ble_eq_true rfl) (Nat.le_of_ble_eq_true rfl)
  exact key x M' h ⟨rfl, rfl⟩
theorem dX8_loan_0 : decode cX8_loan 0 = .ok (.aload_n 0, 1) := by decide +kernel
theorem dX8_loan_1 : decode cX8_loan 1 = .ok (.aload_n 0, 1) := by decide +kernel
theorem dX8_loan_2 : decode cX8_loan 2 = .ok (.iload_n 1, 1) := by decide +kernel
theorem dX8_loan_3 : decode cX8_loan 3 = .ok (.invokevirtual 222, 3) := by decide +kernel
theorem dX8_loan_6 : decode cX8_loan 6 = .ok (.ifCond .eq 19, 3) := by decide +kernel
theorem dX8_loan_9 : decode cX8_loan 9 = .ok (.iload_n 2, 1) := by decide +kernel
theorem dX8_loan_10 : decode cX8_loan 10 = .ok (.i2l, 1) := by decide +kernel
theorem dX8_loan_11 : decode cX8_loan 11 = .ok (.lconst 0, 1) := by decide +kernel
theorem dX8_loan_12 : decode cX8_loan 12 = .ok (.ldc2_w 242, 3) := by decide +kernel
theorem dX8_loan_15 : decode cX8_loan 15 = .ok (.invokestatic 83, 3) := by decide +kernel
theorem dX8_loan_18 : decode cX8_loan 18 = .ok (.ifCond .eq 7, 3) := by decide +kernel
theorem dX8_loan_21 : decode cX8_loan 21 = .ok (.iconst 0, 1) := by decide +kernel
theorem dX8_loan_22 : decode cX8_loan 22 = .ok (.goto 4, 3) := by decide +kernel
theorem dX8_loan_25 : decode cX8_loan 25 = .ok (.iconst 1, 1) := by decide +kernel
theorem dX8_loan_26 : decode cX8_loan 26 = .ok (.putfield 46, 3) := by decide +kernel
theorem dX8_loan_29 : decode cX8_loan 29 = .ok (.aload_n 0, 1) := by decide +kernel
theorem dX8_loan_30 : decode cX8_loan 30 = .ok (.getfield 46, 3) := by decide +kernel
theorem dX8_loan_33 : decode cX8_loan 33 = .ok (.ifCond .le 5, 3) := by decide +kernel
theorem dX8_loan_36 : decode cX8_loan 36 = .ok (.iconst 0, 1) := by decide +kernel
theorem dX8_loan_37 : decode cX8_loan 37 = .ok (.ireturn, 1) := by decide +kernel
theorem dX8_loan_38 : decode cX8_loan 38 = .ok (.iload_n 2, 1) := by decide +kernel
theorem dX8_loan_39 : decode cX8_loan 39 = .ok (.bipush 7, 2) := by decide +kernel
theorem dX8_loan_41 : decode cX8_loan 41 = .ok (.if_icmp .ge 12, 3) := by decide +kernel
theorem dX8_loan_44 : decode cX8_loan 44 = .ok (.aload_n 0, 1) := by decide +kernel
theorem dX8_loan_45 : decode cX8_loan 45 = .ok (.iload_n 1, 1) := by decide +kernel
theorem dX8_loan_46 : decode cX8_loan 46 = .ok (.iload_n 2, 1) := by decide +kernel
theorem dX8_loan_47 : decode cX8_loan 47 = .ok (.invokevirtual 225, 3) := by decide +kernel
theorem dX8_loan_50 : decode cX8_loan 50 = .ok (.goto 47, 3) := by decide +kernel
theorem dX8_loan_53 : decode cX8_loan 53 = .ok (.iload_n 2, 1) := by decide +kernel
theorem dX8_loan_54 : decode cX8_loan 54 = .ok (.bipush 7, 2) := by decide +kernel
theorem dX8_loan_56 : decode cX8_loan 56 = .ok (.if_icmp .ne 16, 3) := by decide +kernel
theorem dX8_loan_59 : decode cX8_loan 59 = .ok (.aload_n 0, 1) := by decide +kernel
theorem dX8_loan_60 : decode cX8_loan 60 = .ok (.getfield 20, 3) := by decide +kernel
theorem dX8_loan_63 : decode cX8_loan 63 = .ok (.sipush 1207, 3) := by decide +kernel
theorem dX8_loan_66 : decode cX8_loan 66 = .ok (.iload_n 1, 1) := by decide +kernel
theorem dX8_loan_67 : decode cX8_loan 67 = .ok (.iadd, 1) := by decide +kernel
theorem dX8_loan_68 : decode cX8_loan 68 = .ok (.iaload, 1) := by decide +kernel
theorem dX8_loan_69 : decode cX8_loan 69 = .ok (.goto 28, 3) := by decide +kernel
theorem dX8_loan_72 : decode cX8_loan 72 = .ok (.iload_n 2, 1) := by decide +kernel
theorem dX8_loan_73 : decode cX8_loan 73 = .ok (.bipush 8, 2) := by decide +kernel
theorem dX8_loan_75 : decode cX8_loan 75 = .ok (.if_icmp .ne 16, 3) := by decide +kernel
theorem dX8_loan_78 : decode cX8_loan 78 = .ok (.aload_n 0, 1) := by decide +kernel
theorem dX8_loan_79 : decode cX8_loan 79 = .ok (.getfield 20, 3) := by decide +kernel
theorem dX8_loan_82 : decode cX8_loan 82 = .ok (.sipush 1211, 3) := by decide +kernel
theorem dX8_loan_85 : decode cX8_loan 85 = .ok (.iload_n 1, 1) := by decide +kernel
theorem dX8_loan_86 : decode cX8_loan 86 = .ok (.iadd, 1) := by decide +kernel
theorem dX8_loan_87 : decode cX8_loan 87 = .ok (.iaload, 1) := by decide +kernel
theorem dX8_loan_88 : decode cX8_loan 88 = .ok (.goto 9, 3) := by decide +kernel
theorem dX8_loan_91 : decode cX8_loan 91 = .ok (.aload_n 0, 1) := by decide +kernel
theorem dX8_loan_92 : decode cX8_loan 92 = .ok (.iload_n 1, 1) := by decide +kernel
theorem dX8_loan_93 : decode cX8_loan 93 = .ok (.iconst 0, 1) := by decide +kernel
theorem dX8_loan_94 : decode cX8_loan 94 = .ok (.invokevirtual 232, 3) := by decide +kernel
theorem dX8_loan_97 : decode cX8_loan 97 = .ok (.ireturn, 1) := by decide +kernel
abbrev rX8_loan : Room := { frames := 2, cells := 0, slots := 0, locals := 46 }
theorem cal_X8_loan : CalOk yX8_loan cX8_loan 3 (some .int) 2 := ⟨wm_6_78, wm_1_9, by decide, by decide, by decide +kernel⟩
def f_X8_loan_26 (x0 : Nat) (x1 : Int32) (x2 : Int32) (y0 : Int32) (y1 : Nat) (M : Mm) : Option (Int32 × Mm) :=
  ck (gK M y1 = 8) (nm (sI M y1 0 y0) fun M1 =>
  ck (gK M1 x0 = 8) ((if (gI M1 x0 0) ≤ 0 then
    (if (7 : Int32) ≤ x2 then
      (if ¬ x2 = (7 : Int32) then
        (if ¬ x2 = (8 : Int32) then
          ck (gK M1 x0 = 8) (bd (f_X8_howMany x0 x1 (0 : Int32) M1) fun v3 M2 =>
          some (v3, M2))
        else
          ck (gK M1 x0 = 8) (bR (gR M1 x0 17) fun q4 => ck (gK M1 q4 = 10 ∧ inb ((1211 : Int32) + x1) (gN M1 q4)) (some ((gI M1 q4 (((1211 : Int32) + x1)).toNatClampNeg), M1))))
      else
        ck (gK M1 x0 = 8) (bR (gR M1 x0 17) fun q5 => ck (gK M1 q5 = 10 ∧ inb ((1207 : Int32) + x1) (gN M1 q5)) (some ((gI M1 q5 (((1207 : Int32) + x1)).toNatClampNeg), M1))))
    else
      ck (gK M1 x0 = 8) (bd (f_X8_loanOf x0 x1 x2 M1) fun v7 M6 =>
      some (v7, M6)))
  else
    some ((0 : Int32), M1))))
set_option maxRecDepth 20000 in
set_option maxHeartbeats 4000000 in
theorem s_X8_loan_26 {z : Zt} {K : Int32 → Mm → Prop} (hz : Good z RX8 cX8_loan 3 rX8_loan (some .int)) (hq : Ret z zI K) : ∀ (x0 : Nat) (x1 : Int32) (x2 : Int32) (y0 : Int32) (y1 : Nat) (M : Mm), Sim z 26 [(0, .ref x0), (1, .int x1), (2, .int x2)] [.int y0, .ref y1] M 0 0 (f_X8_loan_26 x0 x1 x2 y0 y1 M) K := by
  intro x0 x1 x2 y0 y1 M
  unfold f_X8_loan_26
  refine r_putI (j := 0) cl8 hz dX8_loan_26 (by decide) wm_5_56 (Or.inl rfl) rfl rfl rfl ?_
  refine r_nmM (fun M1 => ?_)
  refine r_aload_n hz dX8_loan_29 0 rfl ?_
  refine r_getI (j := 0) cl8 hz dX8_loan_30 (by decide) wm_5_56 rfl ?_
  refine r_if_le (tgt := 38) hz dX8_loan_33 rfl ?_ ?_
  · refine r_iload_n hz dX8_loan_38 2 rfl ?_
    refine r_bipush (v := 7) hz dX8_loan_39 rfl ?_
    refine r_icmp_ge (tgt := 53) hz dX8_loan_41 rfl ?_ ?_
    · refine r_iload_n hz dX8_loan_53 2 rfl ?_
      refine r_bipush (v := 7) hz dX8_loan_54 rfl ?_
      refine r_icmp_ne (tgt := 72) hz dX8_loan_56 rfl ?_ ?_
      · refine r_iload_n hz dX8_loan_72 2 rfl ?_
        refine r_bipush (v := 8) hz dX8_loan_73 rfl ?_
        refine r_icmp_ne (tgt := 91) hz dX8_loan_75 rfl ?_ ?_
        · refine r_aload_n hz dX8_loan_91 0 rfl ?_
          refine r_iload_n hz dX8_loan_92 1 rfl ?_
          refine r_iconst (v := 0) hz dX8_loan_93 rfl ?_
          refine r_callVi (As := fun _ => [.int x1, .int (0 : Int32)]) cl8 hz (fun _ _ h => t_X8_howMany _ _ _ _ _ _ h) cal_X8_howMany dX8_loan_94 wm_6_64 wm_6_66 wm_p_65 rfl rfl (Nat.le_of_ble_eq_true rfl) ⟨(Nat.le_of_ble_eq_true rfl), (Nat.le_of_ble_eq_true rfl)⟩ ⟨(Nat.le_of_ble_eq_true rfl), (Nat.le_of_ble_eq_true rfl)⟩ (fun v3 M2 => ?_)
          exact r_iret hz hq dX8_loan_97 (Nat.le_of_ble_eq_true rfl) (Nat.le_of_ble_eq_true rfl)
        · refine r_aload_n hz dX8_loan_78 0 rfl ?_
          refine r_getR (j := 17) cl8 hz dX8_loan_79 (by decide) wm_5_73 rfl (fun q4 => ?_)
          refine r_sipush (v := 1211) hz dX8_loan_82 rfl ?_
          refine r_iload_n hz dX8_loan_85 1 rfl ?_
          refine r_iadd hz dX8_loan_86 ?_
          refine r_iald hz dX8_loan_87 ?_
          refine r_goto (tgt := 97) hz dX8_loan_88 rfl ?_
          exact r_iret hz hq dX8_loan_97 (Nat.le_of_ble_eq_true rfl) (Nat.le_of_ble_eq_true rfl)
      · refine r_aload_n hz dX8_loan_59 0 rfl ?_
        refine r_getR (j := 17) cl8 hz dX8_loan_60 (by decide) wm_5_73 rfl (fun q5 => ?_)
        refine r_sipush (v := 1207) hz dX8_loan_63 rfl ?_
        refine r_iload_n hz dX8_loan_66 1 rfl ?_
        refine r_iadd hz dX8_loan_67 ?_
        refine r_iald hz dX8_loan_68 ?_
        refine r_goto (tgt := 97) hz dX8_loan_69 rfl ?_
        exact r_iret hz hq dX8_loan_97 (Nat.le_of_ble_eq_true rfl) (Nat.le_of_ble_eq_true rfl)
    · refine r_aload_n hz dX8_loan_44 0 rfl ?_
      refine r_iload_n hz dX8_loan_45 1 rfl ?_
      refine r_iload_n hz dX8_loan_46 2 rfl ?_
      refine r_callVi (As := fun _ => [.int x1, .int x2]) cl8 hz (fun _ _ h => t_X8_loanOf _ _ _ _ _ _ h) cal_X8_loanOf dX8_loan_47 wm_6_68 wm_6_70 wm_p_66 rfl rfl (Nat.le_of_ble_eq_true rfl) ⟨(Nat.le_of_ble_eq_true rfl), (Nat.le_of_ble_eq_true rfl)⟩ ⟨(Nat.le_of_ble_eq_true rfl), (Nat.le_of_ble_eq_true rfl)⟩ (fun v7 M6 => ?_)
      refine r_goto (tgt := 97) hz dX8_loan_50 rfl ?_
      exact r_iret hz hq dX8_loan_97 (Nat.le_of_ble_eq_true rfl) (Nat.le_of_ble_eq_true rfl)
  · refine r_iconst (v := 0) hz dX8_loan_36 rfl ?_
    exact r_iret hz hq dX8_loan_37 (Nat.le_of_ble_eq_true rfl) (Nat.le_of_ble_eq_true rfl)
def f_X8_loan (p0 : Nat) (p1 : Int32) (p2 : Int32) (M : Mm) : Option (Int32 × Mm) :=
  ck (gK M p0 = 8) (bd (f_X8_isLoan p0 p1 M) fun v2 M1 =>
  (if v2 = 0 then
    f_X8_loan_26 p0 p1 p2 (1 : Int32) p0 M1
  else
    bd (f_X8_within (p2).toInt64 (0 : Int64) (9 : Int64) M1) fun v4 M3 =>
    (if v4 = 0 then
      f_X8_loan_26 p0 p1 p2 (1 : Int32) p0 M3
    else
      f_X8_loan_26 p0 p1 p2 (0 : Int32) p0 M3)))
set_option maxRecDepth 20000 in
set_option maxHeartbeats 4000000 in
theorem t_X8_loan (p0 : Nat) (p1 : Int32) (p2 : Int32) (M : Mm) (x : Int32) (M' : Mm) (h : f_X8_loan p0 p1 p2 M = some (x, M')) : Ctr yX8_loan cX8_loan 3 (some .int) rX8_loan (fun _ => [.ref p0, .int p1, .int p2]) M (zI x) M' := by
  refine ctr_of (plainFor_of_name (by decide)) (fun _ => Nat.le_of_ble_eq_true rfl) (fun z hz hin hq => ?_)
  have key : Sim z 0 [(0, .ref p0), (1, .int p1), (2, .int p2)] [] M 0 0 (f_X8_loan p0 p1 p2 M) (fun a b => a = x ∧ b = M') := by
    have hq : Ret z zI (fun a b => a = x ∧ b = M') := fun a b e => by rw [e.1, e.2]; exact hq
    unfold f_X8_loan
    refine r_aload_n hz dX8_loan_0 0 rfl ?_
    refine r_aload_n hz dX8_loan_1 0 rfl ?_
    refine r_iload_n hz dX8_loan_2 1 rfl ?_
    refine r_callVi (As := fun _ => [.int p1]) cl8 hz (fun _ _ h => t_X8_isLoan _ _ _ _ _ h) cal_X8_isLoan dX8_loan_3 wm_6_79 wm_6_81 wm_p_67 rfl rfl (Nat.le_of_ble_eq_true rfl) ⟨(Nat.le_of_ble_eq_true rfl), (Nat.le_of_ble_eq_true rfl)⟩ ⟨(Nat.le_of_ble_eq_true rfl), (Nat.le_of_ble_eq_true rfl)⟩ (fun v2 M1 => ?_)
    refine r_if_eq (tgt := 25) hz dX8_loan_6 rfl ?_ ?_
    · refine r_iconst (v := 1) hz dX8_loan_25 rfl ?_
      exact s_X8_loan_26 hz hq p0 p1 p2 (1 : Int32) p0 M1
    · refine r_iload_n hz dX8_loan_9 2 rfl ?_
      refine r_i2l hz dX8_loan_10 ?_
      refine r_lconst (v := 0) hz dX8_loan_11 rfl ?_
      refine r_ldc2 (v := 9) hz dX8_loan_12 wm_6_83 ?_
      refine r_callSi (As := fun _ => [.long (p2).toInt64, .long (0 : Int64), .long (9 : Int64)]) hz (fun _ _ h => t_X8_within _ _ _ _ _ _ h) cal_X8_within dX8_loan_15 wm_5_175 wm_5_176 rfl rfl (Nat.le_of_ble_eq_true rfl) ⟨(Nat.le_of_ble_eq_true rfl), (Nat.le_of_ble_eq_true rfl)⟩ ⟨(Nat.le_of_ble_eq_true rfl), (Nat.le_of_ble_eq_true rfl)⟩ (fun v4 M3 => ?_)
      refine r_if_eq (tgt := 25) hz dX8_loan_18 rfl ?_ ?_
      · refine r_iconst (v := 1) hz dX8_loan_25 rfl ?_
        exact s_X8_loan_26 hz hq p0 p1 p2 (1 : Int32) p0 M3
      · refine r_iconst (v := 0) hz dX8_loan_21 rfl ?_
        refine r_goto (tgt := 26) hz dX8_loan_22 rfl ?_
        exact s_X8_loan_26 hz hq p0 p1 p2 (0 : Int32) p0 M3
  exact key x M' h ⟨rfl, rfl⟩
theorem dX8_cash_0 : decode cX8_cash 0 = .ok (.aload_n 0, 1) := by decide +kernel
theorem dX8_cash_1 : decode cX8_cash 1 = .ok (.iconst 0, 1) := by decide +kernel
theorem dX8_cash_2 : decode cX8_cash 2 = .ok (.putfield 46, 3) := by decide +kernel
theorem dX8_cash_5 : decode cX8_cash 5 = .ok (.aload_n 0, 1) := by decide +kernel
theorem dX8_cash_6 : decode cX8_cash 6 = .ok (.iload_n 1, 1) := by decide +kernel
theorem dX8_cash_7 : decode cX8_cash 7 = .ok (.invokevirtual 244, 3) := by decide +kernel
theorem dX8_cash_10 : decode cX8_cash 10 = .ok (.ifCond .eq 16, 3) := by decide +kernel
theorem dX8_cash_13 : decode cX8_cash 13 = .ok (.aload_n 0, 1) := by decide +kernel
theorem dX8_cash_14 : decode cX8_cash 14 = .ok (.getfield 20, 3) := by decide +kernel
theorem dX8_cash_17 : decode cX8_cash 17 = .ok (.sipush 1200, 3) := by decide +kernel
theorem dX8_cash_20 : decode cX8_cash 20 = .ok (.iload_n 1, 1) := by decide +kernel
theorem dX8_cash_21 : decode cX8_cash 21 = .ok (.iadd, 1) := by decide +kernel
theorem dX8_cash_22 : decode cX8_cash 22 = .ok (.iaload, 1) := by decide +kernel
theorem dX8_cash_23 : decode cX8_cash 23 = .ok (.goto 4, 3) := by decide +kernel
theorem dX8_cash_26 : decode cX8_cash 26 = .ok (.iconst (-1), 1) := by decide +kernel
theorem dX8_cash_27 : decode cX8_cash 27 = .ok (.ireturn, 1) := by decide +kernel
abbrev rX8_cash : Room := { frames := 2, cells := 0, slots := 0, locals := 46 }
theorem cal_X8_cash : CalOk yX8_cash cX8_cash 2 (some .int) 1 := ⟨wm_6_87, wm_1_9, by decide, by decide, by decide +kernel⟩
def f_X8_cash (p0 : Nat) (p1 : Int32) (M : Mm) : Option (Int32 × Mm) :=
  ck (gK M p0 = 8) (nm (sI M p0 0 (0 : Int32)) fun M1 =>
  ck (gK M1 p0 = 8) (bd (f_X8_isHolder p0 p1 M1) fun v3 M2 =>
  (if v3 = 0 then
    some ((-1 : Int32), M2)
  else
    ck (gK M2 p0 = 8) (bR (gR M2 p0 17) fun q4 => ck (gK M2 q4 = 10 ∧ inb ((1200 : Int32) + p1) (gN M2 q4)) (some ((gI M2 q4 (((1200 : Int32) + p1)).toNatClampNeg), M2))))))
set_option maxRecDepth 20000 in
set_option maxHeartbeats 4000000 in
theorem t_X8_cash (p0 : Nat) (p1 : Int32) (M : Mm) (x : Int32) (M' : Mm) (h : f_X8_cash p0 p1 M = some (x, M')) : Ctr yX8_cash cX8_cash 2 (some .int) rX8_cash (fun _ => [.ref p0, .int p1]) M (zI x) M' := by
  refine ctr_of (plainFor_of_name (by decide)) (fun _ => Nat.le_of_ble_eq_true rfl) (fun z hz hin hq => ?_)
  have key : Sim z 0 [(0, .ref p0), (1, .int p1)] [] M 0 0 (f_X8_cash p0 p1 M) (fun a b => a = x ∧ b = M') := by
    have hq : Ret z zI (fun a b => a = x ∧ b = M') := fun a b e => by rw [e.1, e.2]; exact hq
    unfold f_X8_cash
    refine r_aload_n hz dX8_cash_0 0 rfl ?_
    refine r_iconst (v := 0) hz dX8_cash_1 rfl ?_
    refine r_putI (j := 0) cl8 hz dX8_cash_2 (by decide) wm_5_56 (Or.inl rfl) rfl rfl rfl ?_
    refine r_nmM (fun M1 => ?_)
    refine r_aload_n hz dX8_cash_5 0 rfl ?_
    refine r_iload_n hz dX8_cash_6 1 rfl ?_
    refine r_callVi (As := fun _ => [.int p1]) cl8 hz (fun _ _ h => t_X8_isHolder _ _ _ _ _ h) cal_X8_isHolder dX8_cash_7 wm_6_88 wm_6_90 wm_p_68 rfl rfl (Nat.le_of_ble_eq_true rfl) ⟨(Nat.le_of_ble_eq_true rfl), (Nat.le_of_ble_eq_true rfl)⟩ ⟨(Nat.le_of_ble_eq_true rfl), (Nat.le_of_ble_eq_true rfl)⟩ (fun v3 M2 => ?_)
    refine r_if_eq (tgt := 26) hz dX8_cash_10 rfl ?_ ?_
    · refine r_iconst (v := -1) hz dX8_cash_26 rfl ?_
      exact r_iret hz hq dX8_cash_27 (Nat.le_of_ble_eq_true rfl) (Nat.le_of_ble_eq_true rfl)
    · refine r_aload_n hz dX8_cash_13 0 rfl ?_
      refine r_getR (j := 17) cl8 hz dX8_cash_14 (by decide) wm_5_73 rfl (fun q4 => ?_)
      refine r_sipush (v := 1200) hz dX8_cash_17 rfl ?_
      refine r_iload_n hz dX8_cash_20 1 rfl ?_
      refine r_iadd hz dX8_cash_21 ?_
      refine r_iald hz dX8_cash_22 ?_
      refine r_goto (tgt := 27) hz dX8_cash_23 rfl ?_
      exact r_iret hz hq dX8_cash_27 (Nat.le_of_ble_eq_true rfl) (Nat.le_of_ble_eq_true rfl)
  exact key x M' h ⟨rfl, rfl⟩
theorem dX8_held_0 : decode cX8_held 0 = .ok (.aload_n 0, 1) := by decide +kernel
theorem dX8_held_1 : decode cX8_held 1 = .ok (.iconst 0, 1) := by decide +kernel
theorem dX8_held_2 : decode cX8_held 2 = .ok (.putfield 46, 3) := by decide +kernel
theorem dX8_held_5 : decode cX8_held 5 = .ok (.aload_n 0, 1) := by decide +kernel
theorem dX8_held_6 : decode cX8_held 6 = .ok (.iload_n 1, 1) := by decide +kernel
theorem dX8_held_7 : decode cX8_held 7 = .ok (.invokevirtual 244, 3) := by decide +kernel
theorem dX8_held_10 : decode cX8_held 10 = .ok (.ifCond .eq 23, 3) := by decide +kernel
theorem dX8_held_13 : decode cX8_held 13 = .ok (.aload_n 0, 1) := by decide +kernel
theorem dX8_held_14 : decode cX8_held 14 = .ok (.iload_n 2, 1) := by decide +kernel
theorem dX8_held_15 : decode cX8_held 15 = .ok (.invokevirtual 222, 3) := by decide +kernel
theorem dX8_held_18 : decode cX8_held 18 = .ok (.ifCond .eq 15, 3) := by decide +kernel
theorem dX8_held_21 : decode cX8_held 21 = .ok (.iload_n 3, 1) := by decide +kernel
theorem dX8_held_22 : decode cX8_held 22 = .ok (.i2l, 1) := by decide +kernel
theorem dX8_held_23 : decode cX8_held 23 = .ok (.lconst 0, 1) := by decide +kernel
theorem dX8_held_24 : decode cX8_held 24 = .ok (.ldc2_w 247, 3) := by decide +kernel
theorem dX8_held_27 : decode cX8_held 27 = .ok (.invokestatic 83, 3) := by decide +kernel
theorem dX8_held_30 : decode cX8_held 30 = .ok (.ifCond .ne 5, 3) := by decide +kernel
theorem dX8_held_33 : decode cX8_held 33 = .ok (.iconst (-1), 1) := by decide +kernel
theorem dX8_held_34 : decode cX8_held 34 = .ok (.ireturn, 1) := by decide +kernel
theorem dX8_held_35 : decode cX8_held 35 = .ok (.iconst 0, 1) := by decide +kernel
theorem dX8_held_36 : decode cX8_held 36 = .ok (.istore 4, 2) := by decide +kernel
theorem dX8_held_38 : decode cX8_held 38 = .ok (.iconst 1, 1) := by decide +kernel
theorem dX8_held_39 : decode cX8_held 39 = .ok (.istore 5, 2) := by decide +kernel
theorem dX8_held_41 : decode cX8_held 41 = .ok (.iload 5, 2) := by decide +kernel
theorem dX8_held_43 : decode cX8_held 43 = .ok (.aload_n 0, 1) := by decide +kernel
theorem dX8_held_44 : decode cX8_held 44 = .ok (.iload_n 2, 1) := by decide +kernel
theorem dX8_held_45 : decode cX8_held 45 = .ok (.iconst 0, 1) := by decide +kernel
theorem dX8_held_46 : decode cX8_held 46 = .ok (.invokevirtual 225, 3) := by decide +kernel
theorem dX8_held_49 : decode cX8_held 49 = .ok (.if_icmp .gt 57, 3) := by decide +kernel
theorem dX8_held_52 : decode cX8_held 52 = .ok (.iload_n 2, 1) := by decide +kernel
theorem dX8_held_53 : decode cX8_held 53 = .ok (.iload 5, 2) := by decide +kernel
theorem dX8_held_55 : decode cX8_held 55 = .ok (.invokestatic 229, 3) := by decide +kernel
theorem dX8_held_58 : decode cX8_held 58 = .ok (.istore 6, 2) := by decide +kernel
theorem dX8_held_60 : decode cX8_held 60 = .ok (.iload 4, 2) := by decide +kernel
theorem dX8_held_62 : decode cX8_held 62 = .ok (.aload_n 0, 1) := by decide +kernel
theorem dX8_held_63 : decode cX8_held 63 = .ok (.getfield 20, 3) := by decide +kernel
theorem dX8_held_66 : decode cX8_held 66 = .ok (.sipush 240, 3) := by decide +kernel
theorem dX8_held_69 : decode cX8_held 69 = .ok (.iload 6, 2) := by decide +kernel
theorem dX8_held_71 : decode cX8_held 71 = .ok (.iadd, 1) := by decide +kernel
theorem dX8_held_72 : decode cX8_held 72 = .ok (.iaload, 1) := by decide +kernel
theorem dX8_held_73 : decode cX8_held 73 = .ok (.iload_n 1, 1) := by decide +kernel
theorem dX8_held_74 : decode cX8_held 74 = .ok (.iconst 1, 1) := by decide +kernel
theorem dX8_held_75 : decode cX8_held 75 = .ok (.iadd, 1) := by decide +kernel
theorem dX8_held_76 : decode cX8_held 76 = .ok (.if_icmp .ne 20, 3) := by decide +kernel
theorem dX8_held_79 : decode cX8_held 79 = .ok (.aload_n 0, 1) := by decide +kernel
theorem dX8_held_80 : decode cX8_held 80 = .ok (.getfield 20, 3) := by decide +kernel
theorem dX8_held_83 : decode cX8_held 83 = .ok (.iconst 0, 1) := by decide +kernel
theorem dX8_held_84 : decode cX8_held 84 = .ok (.iload 6, 2) := by decide +kernel
theorem dX8_held_86 : decode cX8_held 86 = .ok (.iadd, 1) := by decide +kernel
theorem dX8_held_87 : decode cX8_held 87 = .ok (.iaload, 1) := by decide +kernel
theorem dX8_held_88 : decode cX8_held 88 = .ok (.iload_n 3, 1) := by decide +kernel
theorem dX8_held_89 : decode cX8_held 89 = .ok (.if_icmp .ne 7, 3) := by decide +kernel
theorem dX8_held_92 : decode cX8_held 92 = .ok (.iconst 1, 1) := by decide +kernel
theorem dX8_held_93 : decode cX8_held 93 = .ok (.goto 4, 3) := by decide +kernel
theorem dX8_held_96 : decode cX8_held 96 = .ok (.iconst 0, 1) := by decide +kernel
theorem dX8_held_97 : decode cX8_held 97 = .ok (.iadd, 1) := by decide +kernel
theorem dX8_held_98 : decode cX8_held 98 = .ok (.istore 4, 2) := by decide +kernel
theorem dX8_held_100 : decode cX8_held 100 = .ok (.iinc 5 1, 3) := by decide +kernel
theorem dX8_held_103 : decode cX8_held 103 = .ok (.goto (-62), 3) := by decide +kernel
theorem dX8_held_106 : decode cX8_held 106 = .ok (.iload 4, 2) := by decide +kernel
theorem dX8_held_108 : decode cX8_held 108 = .ok (.ireturn, 1) := by decide +kernel
abbrev rX8_held : Room := { frames := 2, cells := 0, slots := 0, locals := 46 }
theorem cal_X8_held : CalOk yX8_held cX8_held 7 (some .int) 3 := ⟨wm_6_95, wm_1_9, by decide, by decide, by decide +kernel⟩
def f_X8_held_41 : Nat → Nat → Int32 → Int32 → Int32 → Int32 → Int32 → Mm → Option (Int32 × Mm)
  | 0, _, _, _, _, _, _, _ => none
  | n + 1, x0, x1, x2, x3, x4, x5, M =>
    ck (gK M x0 = 8) (bd (f_X8_loanOf x0 x2 (0 : Int32) M) fun v2 M1 =>
    (if v2 < x5 then
      some (x4, M1)
    else
      bd (f_X8_bondAt x2 x5 M1) fun v4 M3 =>
      ck (gK M3 x0 = 8) (bR (gR M3 x0 17) fun q5 => ck (gK M3 q5 = 10 ∧ inb ((240 : Int32) + v4) (gN M3 q5)) ((if ¬ (gI M3 q5 (((240 : Int32) + v4)).toNatClampNeg) = (x1 + (1 : Int32)) then
        nm (x4 + (0 : Int32)) fun v6 =>
        f_X8_held_41 n x0 x1 x2 x3 v6 (x5 + (1 : Int32)) M3
      else
        ck (gK M3 x0 = 8) (bR (gR M3 x0 17) fun q8 => ck (gK M3 q8 = 10 ∧ inb ((0 : Int32) + v4) (gN M3 q8)) ((if ¬ (gI M3 q8 (((0 : Int32) + v4)).toNatClampNeg) = x3 then
          nm (x4 + (0 : Int32)) fun v9 =>
          f_X8_held_41 n x0 x1 x2 x3 v9 (x5 + (1 : Int32)) M3
        else
          nm (x4 + (1 : Int32)) fun v11 =>
          f_X8_held_41 n x0 x1 x2 x3 v11 (x5 + (1 : Int32)) M3))))))))
set_option maxRecDepth 20000 in
set_option maxHeartbeats 4000000 in
theorem s_X8_held_41 {z : Zt} {K : Int32 → Mm → Prop} (hz : Good z RX8 cX8_held 7 rX8_held (some .int)) (hq : Ret z zI K) : ∀ (n : Nat) (x0 : Nat) (x1 : Int32) (x2 : Int32) (x3 : Int32) (x4 : Int32) (x5 : Int32) (M : Mm), Sim z 41 [(0, .ref x0), (1, .int x1), (2, .int x2), (3, .int x3), (4, .int x4), (5, .int x5)] [] M 0 0 (f_X8_held_41 n x0 x1 x2 x3 x4 x5 M) K := by
  intro n
  induction n with
  | zero => exact fun _ _ _ _ _ _ _ => r_none
  | succ n ih =>
    intro x0 x1 x2 x3 x4 x5 M
    unfold f_X8_held_41
    refine r_iload hz dX8_held_41 5 rfl ?_
    refine r_aload_n hz dX8_held_43 0 rfl ?_
    refine r_iload_n hz dX8_held_44 2 rfl ?_
    refine r_iconst (v := 0) hz dX8_held_45 rfl ?_
    refine r_callVi (As := fun _ => [.int x2, .int (0 : Int32)]) cl8 hz (fun _ _ h => t_X8_loanOf _ _ _ _ _ _ h) cal_X8_loanOf dX8_held_46 wm_6_68 wm_6_70 wm_p_66 rfl rfl (Nat.le_of_ble_eq_true rfl) ⟨(Nat.le_of_ble_eq_true rfl), (Nat.le_of_ble_eq_true rfl)⟩ ⟨(Nat.le_of_ble_eq_true rfl), (Nat.le_of_ble_eq_true rfl)⟩ (fun v2 M1 => ?_)
    refine r_icmp_gt (tgt := 106) hz dX8_held_49 rfl ?_ ?_
    · refine r_iload hz dX8_held_106 4 rfl ?_
      exact r_iret hz hq dX8_held_108 (Nat.le_of_ble_eq_true rfl) (Nat.le_of_ble_eq_true rfl)
    · refine r_iload_n hz dX8_held_52 2 rfl ?_
      refine r_iload hz dX8_held_53 5 rfl ?_
      refine r_callSi (As := fun _ => [.int x2, .int x5]) hz (fun _ _ h => t_X8_bondAt _ _ _ _ _ h) cal_X8_bondAt dX8_held_55 wm_6_72 wm_6_73 rfl rfl (Nat.le_of_ble_eq_true rfl) ⟨(Nat.le_of_ble_eq_true rfl), (Nat.le_of_ble_eq_true rfl)⟩ ⟨(Nat.le_of_ble_eq_true rfl), (Nat.le_of_ble_eq_true rfl)⟩ (fun v4 M3 => ?_)
      refine r_istore (lv' := [(6, .int v4), (0, .ref x0), (1, .int x1), (2, .int x2), (3, .int x3), (4, .int x4), (5, .int x5)]) hz dX8_held_58 (by decide) rfl ?_
      refine r_iload hz dX8_held_60 5 rfl ?_
      refine r_aload_n hz dX8_held_62 1 rfl ?_
      refine r_getR (j := 17) cl8 hz dX8_held_63 (by decide) wm_5_73 rfl (fun q5 => ?_)
      refine r_sipush (v := 240) hz dX8_held_66 rfl ?_
      refine r_iload hz dX8_held_69 0 rfl ?_
      refine r_iadd hz dX8_held_71 ?_
      refine r_iald hz dX8_held_72 ?_
      refine r_iload_n hz dX8_held_73 2 rfl ?_
      refine r_iconst (v := 1) hz dX8_held_74 rfl ?_
      refine r_iadd hz dX8_held_75 ?_
      refine r_icmp_ne (tgt := 96) hz dX8_held_76 rfl ?_ ?_
      · refine r_iconst (v := 0) hz dX8_held_96 rfl ?_
        refine r_iadd hz dX8_held_97 ?_
        refine r_nmi (fun v6 => ?_)
        refine r_istore (lv' := [(4, .int v6), (6, .int v4), (0, .ref x0), (1, .int x1), (2, .int x2), (3, .int x3), (5, .int x5)]) hz dX8_held_98 (by decide) rfl ?_
        refine r_iinc (v := (x5 + (1 : Int32))) (lv' := [(5, .int (x5 + (1 : Int32))), (4, .int v6), (6, .int v4), (0, .ref x0), (1, .int x1), (2, .int x2), (3, .int x3)]) hz dX8_held_100 6 rfl rfl (by decide) rfl ?_
        refine r_goto (tgt := 41) hz dX8_held_103 rfl ?_
        refine r_sub [3, 4, 5, 6, 1, 0] rfl ?_
        exact ih x0 x1 x2 x3 v6 (x5 + (1 : Int32)) M3
      · refine r_aload_n hz dX8_held_79 1 rfl ?_
        refine r_getR (j := 17) cl8 hz dX8_held_80 (by decide) wm_5_73 rfl (fun q8 => ?_)
        refine r_iconst (v := 0) hz dX8_held_83 rfl ?_
        refine r_iload hz dX8_held_84 0 rfl ?_
        refine r_iadd hz dX8_held_86 ?_
        refine r_iald hz dX8_held_87 ?_
        refine r_iload_n hz dX8_held_88 4 rfl ?_
        refine r_icmp_ne (tgt := 96) hz dX8_held_89 rfl ?_ ?_
        · refine r_iconst (v := 0) hz dX8_held_96 rfl ?_
          refine r_iadd hz dX8_held_97 ?_
          refine r_nmi (fun v9 => ?_)
          refine r_istore (lv' := [(4, .int v9), (6, .int v4), (0, .ref x0), (1, .int x1), (2, .int x2), (3, .int x3), (5, .int x5)]) hz dX8_held_98 (by decide) rfl ?_
          refine r_iinc (v := (x5 + (1 : Int32))) (lv' := [(5, .int (x5 + (1 : Int32))), (4, .int v9), (6, .int v4), (0, .ref x0), (1, .int x1), (2, .int x2), (3, .int x3)]) hz dX8_held_100 6 rfl rfl (by decide) rfl ?_
          refine r_goto (tgt := 41) hz dX8_held_103 rfl ?_
          refine r_sub [3, 4, 5, 6, 1, 0] rfl ?_
          exact ih x0 x1 x2 x3 v9 (x5 + (1 : Int32)) M3
        · refine r_iconst (v := 1) hz dX8_held_92 rfl ?_
          refine r_goto (tgt := 97) hz dX8_held_93 rfl ?_
          refine r_iadd hz dX8_held_97 ?_
          refine r_nmi (fun v11 => ?_)
          refine r_istore (lv' := [(4, .int v11), (6, .int v4), (0, .ref x0), (1, .int x1), (2, .int x2), (3, .int x3), (5, .int x5)]) hz dX8_held_98 (by decide) rfl ?_
          refine r_iinc (v := (x5 + (1 : Int32))) (lv' := [(5, .int (x5 + (1 : Int32))), (4, .int v11), (6, .int v4), (0, .ref x0), (1, .int x1), (2, .int x2), (3, .int x3)]) hz dX8_held_100 6 rfl rfl (by decide) rfl ?_
          refine r_goto (tgt := 41) hz dX8_held_103 rfl ?_
          refine r_sub [3, 4, 5, 6, 1, 0] rfl ?_
          exact ih x0 x1 x2 x3 v11 (x5 + (1 : Int32)) M3
def f_X8_held (p0 : Nat) (p1 : Int32) (p2 : Int32) (p3 : Int32) (M : Mm) : Option (Int32 × Mm) :=
  ck (gK M p0 = 8) (nm (sI M p0 0 (0 : Int32)) fun M1 =>
  ck (gK M1 p0 = 8) (bd (f_X8_isHolder p0 p1 M1) fun v3 M2 =>
  (if v3 = 0 then
    some ((-1 : Int32), M2)
  else
    ck (gK M2 p0 = 8) (bd (f_X8_isLoan p0 p2 M2) fun v5 M4 =>
    (if v5 = 0 then
      some ((-1 : Int32), M4)
    else
      bd (f_X8_within (p3).toInt64 (0 : Int64) (4 : Int64) M4) fun v7 M6 =>
      (if ¬ v7 = 0 then
        f_X8_held_41 FU p0 p1 p2 p3 (0 : Int32) (1 : Int32) M6
      else
        some ((-1 : Int32), M6)))))))
set_option maxRecDepth 20000 in
set_option maxHeartbeats 4000000 in
theorem t_X8_held (p0 : Nat) (p1 : Int32) (p2 : Int32) (p3 : Int32) (M : Mm) (x : Int32) (M' : Mm) (h : f_X8_held p0 p1 p2 p3 M = some (x, M')) : Ctr yX8_held cX8_held 7 (some .int) rX8_held (fun _ => [.ref p0, .int p1, .int p2, .int p3]) M (zI x) M' := by
  refine ctr_of (plainFor_of_name (by decide)) (fun _ => Nat.le_of_ble_eq_true rfl) (fun z hz hin hq => ?_)
  have key : Sim z 0 [(0, .ref p0), (1, .int p1), (2, .int p2), (3, .int p3)] [] M 0 0 (f_X8_held p0 p1 p2 p3 M) (fun a b => a = x ∧ b = M') := by
    have hq : Ret z zI (fun a b => a = x ∧ b = M') := fun a b e => by rw [e.1, e.2]; exact hq
    unfold f_X8_held
    refine r_aload_n hz dX8_held_0 0 rfl ?_
    refine r_iconst (v := 0) hz dX8_held_1 rfl ?_
    refine r_putI (j := 0) cl8 hz dX8_held_2 (by decide) wm_5_56 (Or.inl rfl) rfl rfl rfl ?_
    refine r_nmM (fun M1 => ?_)
    refine r_aload_n hz dX8_held_5 0 rfl ?_
    refine r_iload_n hz dX8_held_6 1 rfl ?_
    refine r_callVi (As := fun _ => [.int p1]) cl8 hz (fun _ _ h => t_X8_isHolder _ _ _ _ _ h) cal_X8_isHolder dX8_held_7 wm_6_88 wm_6_90 wm_p_68 rfl rfl (Nat.le_of_ble_eq_true rfl) ⟨(Nat.le_of_ble_eq_true rfl), (Nat.le_of_ble_eq_true rfl)⟩ ⟨(Nat.le_of_ble_eq_true rfl), (Nat.le_of_ble_eq_true rfl)⟩ (fun v3 M2 => ?_)
    refine r_if_eq (tgt := 33) hz dX8_held_10 rfl ?_ ?_
    · refine r_iconst (v := -1) hz dX8_held_33 rfl ?_
      exact r_iret hz hq dX8_held_34 (Nat.le_of_ble_eq_true rfl) (Nat.le_of_ble_eq_true rfl)
    · refine r_aload_n hz dX8_held_13 0 rfl ?_
      refine r_iload_n hz dX8_held_14 2 rfl ?_
      refine r_callVi (As := fun _ => [.int p2]) cl8 hz (fun _ _ h => t_X8_isLoan _ _ _ _ _ h) cal_X8_isLoan dX8_held_15 wm_6_79 wm_6_81 wm_p_67 rfl rfl (Nat.le_of_ble_eq_true rfl) ⟨(Nat.le_of_ble_eq_true rfl), (Nat.le_of_ble_eq_true rfl)⟩ ⟨(Nat.le_of_ble_eq_true rfl), (Nat.le_of_ble_eq_true rfl)⟩ (fun v5 M4 => ?_)
      refine r_if_eq (tgt := 33) hz dX8_held_18 rfl ?_ ?_
      · refine r_iconst (v := -1) hz dX8_held_33 rfl ?_
        exact r_iret hz hq dX8_held_34 (Nat.le_of_ble_eq_true rfl) (Nat.le_of_ble_eq_true rfl)
      · refine r_iload_n hz dX8_held_21 3 rfl ?_
        refine r_i2l hz dX8_held_22 ?_
        refine r_lconst (v := 0) hz dX8_held_23 rfl ?_
        refine r_ldc2 (v := 4) hz dX8_held_24 wm_6_96 ?_
        refine r_callSi (As := fun _ => [.long (p3).toInt64, .long (0 : Int64), .long (4 : Int64)]) hz (fun _ _ h => t_X8_within _ _ _ _ _ _ h) cal_X8_within dX8_held_27 wm_5_175 wm_5_176 rfl rfl (Nat.le_of_ble_eq_true rfl) ⟨(Nat.le_of_ble_eq_true rfl), (Nat.le_of_ble_eq_true rfl)⟩ ⟨(Nat.le_of_ble_eq_true rfl), (Nat.le_of_ble_eq_true rfl)⟩ (fun v7 M6 => ?_)
        refine r_if_ne (tgt := 35) hz dX8_held_30 rfl ?_ ?_
        · refine r_iconst (v := 0) hz dX8_held_35 rfl ?_
          refine r_istore (lv' := [(4, .int (0 : Int32)), (0, .ref p0), (1, .int p1), (2, .int p2), (3, .int p3)]) hz dX8_held_36 (by decide) rfl ?_
          refine r_iconst (v := 1) hz dX8_held_38 rfl ?_
          refine r_istore (lv' := [(5, .int (1 : Int32)), (4, .int (0 : Int32)), (0, .ref p0), (1, .int p1), (2, .int p2), (3, .int p3)]) hz dX8_held_39 (by decide) rfl ?_
          refine r_sub [2, 3, 4, 5, 1, 0] rfl ?_
          exact s_X8_held_41 hz hq FU p0 p1 p2 p3 (0 : Int32) (1 : Int32) M6
        · refine r_iconst (v := -1) hz dX8_held_33 rfl ?_
          exact r_iret hz hq dX8_held_34 (Nat.le_of_ble_eq_true rfl) (Nat.le_of_ble_eq_true rfl)
  exact key x M' h ⟨rfl, rfl⟩
theorem dX8_bond_0 : decode cX8_bond 0 = .ok (.aload_n 0, 1) := by decide +kernel
theorem dX8_bond_1 : decode cX8_bond 1 = .ok (.iconst 0, 1) := by decide +kernel
theorem dX8_bond_2 : decode cX8_bond 2 = .ok (.putfield 46, 3) := by decide +kernel
theorem dX8_bond_5 : decode cX8_bond 5 = .ok (.aload_n 0, 1) := by decide +kernel
theorem dX8_bond_6 : decode cX8_bond 6 = .ok (.iload_n 1, 1) := by decide +kernel
theorem dX8_bond_7 : decode cX8_bond 7 = .ok (.iload_n 2, 1) := by decide +kernel
theorem dX8_bond_8 : decode cX8_bond 8 = .ok (.invokevirtual 249, 3) := by decide +kernel
theorem dX8_bond_11 : decode cX8_bond 11 = .ok (.ifCond .eq 15, 3) := by decide +kernel
theorem dX8_bond_14 : decode cX8_bond 14 = .ok (.iload_n 3, 1) := by decide +kernel
theorem dX8_bond_15 : decode cX8_bond 15 = .ok (.i2l, 1) := by decide +kernel
theorem dX8_bond_16 : decode cX8_bond 16 = .ok (.lconst 0, 1) := by decide +kernel
theorem dX8_bond_17 : decode cX8_bond 17 = .ok (.ldc2_w 247, 3) := by decide +kernel
theorem dX8_bond_20 : decode cX8_bond 20 = .ok (.invokestatic 83, 3) := by decide +kernel
theorem dX8_bond_23 : decode cX8_bond 23 = .ok (.ifCond .ne 6, 3) := by decide +kernel
theorem dX8_bond_26 : decode cX8_bond 26 = .ok (.bipush (-2), 2) := by decide +kernel
theorem dX8_bond_28 : decode cX8_bond 28 = .ok (.ireturn, 1) := by decide +kernel
theorem dX8_bond_29 : decode cX8_bond 29 = .ok (.aload_n 0, 1) := by decide +kernel
theorem dX8_bond_30 : decode cX8_bond 30 = .ok (.getfield 20, 3) := by decide +kernel
theorem dX8_bond_33 : decode cX8_bond 33 = .ok (.sipush 240, 3) := by decide +kernel
theorem dX8_bond_36 : decode cX8_bond 36 = .ok (.iload_n 3, 1) := by decide +kernel
theorem dX8_bond_37 : decode cX8_bond 37 = .ok (.imul, 1) := by decide +kernel
theorem dX8_bond_38 : decode cX8_bond 38 = .ok (.iload_n 1, 1) := by decide +kernel
theorem dX8_bond_39 : decode cX8_bond 39 = .ok (.iload_n 2, 1) := by decide +kernel
theorem dX8_bond_40 : decode cX8_bond 40 = .ok (.invokestatic 229, 3) := by decide +kernel
theorem dX8_bond_43 : decode cX8_bond 43 = .ok (.iadd, 1) := by decide +kernel
theorem dX8_bond_44 : decode cX8_bond 44 = .ok (.iaload, 1) := by decide +kernel
theorem dX8_bond_45 : decode cX8_bond 45 = .ok (.istore 4, 2) := by decide +kernel
theorem dX8_bond_47 : decode cX8_bond 47 = .ok (.iload_n 3, 1) := by decide +kernel
theorem dX8_bond_48 : decode cX8_bond 48 = .ok (.iconst 1, 1) := by decide +kernel
theorem dX8_bond_49 : decode cX8_bond 49 = .ok (.if_icmp .ne 10, 3) := by decide +kernel
theorem dX8_bond_52 : decode cX8_bond 52 = .ok (.iload 4, 2) := by decide +kernel
theorem dX8_bond_54 : decode cX8_bond 54 = .ok (.iconst 1, 1) := by decide +kernel
theorem dX8_bond_55 : decode cX8_bond 55 = .ok (.isub, 1) := by decide +kernel
theorem dX8_bond_56 : decode cX8_bond 56 = .ok (.goto 5, 3) := by decide +kernel
theorem dX8_bond_59 : decode cX8_bond 59 = .ok (.iload 4, 2) := by decide +kernel
theorem dX8_bond_61 : decode cX8_bond 61 = .ok (.ireturn, 1) := by decide +kernel
abbrev rX8_bond : Room := { frames := 3, cells := 0, slots := 0, locals := 68 }
theorem cal_X8_bond : CalOk yX8_bond cX8_bond 5 (some .int) 3 := ⟨wm_6_100, wm_1_9, by decide, by decide, by decide +kernel⟩
def f_X8_bond (p0 : Nat) (p1 : Int32) (p2 : Int32) (p3 : Int32) (M : Mm) : Option (Int32 × Mm) :=
  ck (gK M p0 = 8) (nm (sI M p0 0 (0 : Int32)) fun M1 =>
  ck (gK M1 p0 = 8) (bd (f_X8_isBond p0 p1 p2 M1) fun v3 M2 =>
  (if v3 = 0 then
    some ((-2 : Int32), M2)
  else
    bd (f_X8_within (p3).toInt64 (0 : Int64) (4 : Int64) M2) fun v5 M4 =>
    (if ¬ v5 = 0 then
      ck (gK M4 p0 = 8) (bR (gR M4 p0 17) fun q6 => bd (f_X8_bondAt p1 p2 M4) fun v8 M7 =>
      ck (gK M7 q6 = 10 ∧ inb (((240 : Int32) * p3) + v8) (gN M7 q6)) (nm (gI M7 q6 ((((240 : Int32) * p3) + v8)).toNatClampNeg) fun v9 =>
      (if ¬ p3 = (1 : Int32) then
        some (v9, M7)
      else
        some ((v9 - (1 : Int32)), M7))))
    else
      some ((-2 : Int32), M4)))))
set_option maxRecDepth 20000 in
set_option maxHeartbeats 4000000 in
theorem t_X8_bond (p0 : Nat) (p1 : Int32) (p2 : Int32) (p3 : Int32) (M : Mm) (x : Int32) (M' : Mm) (h : f_X8_bond p0 p1 p2 p3 M = some (x, M')) : Ctr yX8_bond cX8_bond 5 (some .int) rX8_bond (fun _ => [.ref p0, .int p1, .int p2, .int p3]) M (zI x) M' := by
  refine ctr_of (plainFor_of_name (by decide)) (fun _ => Nat.le_of_ble_eq_true rfl) (fun z hz hin hq => ?_)
  have key : Sim z 0 [(0, .ref p0), (1, .int p1), (2, .int p2), (3, .int p3)] [] M 0 0 (f_X8_bond p0 p1 p2 p3 M) (fun a b => a = x ∧ b = M') := by
    have hq : Ret z zI (fun a b => a = x ∧ b = M') := fun a b e => by rw [e.1, e.2]; exact hq
    unfold f_X8_bond
    refine r_aload_n hz dX8_bond_0 0 rfl ?_
    refine r_iconst (v := 0) hz dX8_bond_1 rfl ?_
    refine r_putI (j := 0) cl8 hz dX8_bond_2 (by decide) wm_5_56 (Or.inl rfl) rfl rfl rfl ?_
    refine r_nmM (fun M1 => ?_)
    refine r_aload_n hz dX8_bond_5 0 rfl ?_
    refine r_iload_n hz dX8_bond_6 1 rfl ?_
    refine r_iload_n hz dX8_bond_7 2 rfl ?_
    refine r_callVi (As := fun _ => [.int p1, .int p2]) cl8 hz (fun _ _ h => t_X8_isBond _ _ _ _ _ _ h) cal_X8_isBond dX8_bond_8 wm_6_101 wm_6_103 wm_p_69 rfl rfl (Nat.le_of_ble_eq_true rfl) ⟨(Nat.le_of_ble_eq_true rfl), (Nat.le_of_ble_eq_true rfl)⟩ ⟨(Nat.le_of_ble_eq_true rfl), (Nat.le_of_ble_eq_true rfl)⟩ (fun v3 M2 => ?_)
    refine r_if_eq (tgt := 26) hz dX8_bond_11 rfl ?_ ?_
    · refine r_bipush (v := -2) hz dX8_bond_26 rfl ?_
      exact r_iret hz hq dX8_bond_28 (Nat.le_of_ble_eq_true rfl) (Nat.le_of_ble_eq_true rfl)
    · refine r_iload_n hz dX8_bond_14 3 rfl ?_
      refine r_i2l hz dX8_bond_15 ?_
      refine r_lconst (v := 0) hz dX8_bond_16 rfl ?_
      refine r_ldc2 (v := 4) hz dX8_bond_17 wm_6_96 ?_
      refine r_callSi (As := fun _ => [.long (p3).toInt64, .long (0 : Int64), .long (4 : Int64)]) hz (fun _ _ h => t_X8_within _ _ _ _ _ _ h) cal_X8_within dX8_bond_20 wm_5_175 wm_5_176 rfl rfl (Nat.le_of_ble_eq_true rfl) ⟨(Nat.le_of_ble_eq_true rfl), (Nat.le_of_ble_eq_true rfl)⟩ ⟨(Nat.le_of_ble_eq_true rfl), (Nat.le_of_ble_eq_true rfl)⟩ (fun v5 M4 => ?_)
      refine r_if_ne (tgt := 29) hz dX8_bond_23 rfl ?_ ?_
      · refine r_aload_n hz dX8_bond_29 0 rfl ?_
        refine r_getR (j := 17) cl8 hz dX8_bond_30 (by decide) wm_5_73 rfl (fun q6 => ?_)
        refine r_sipush (v := 240) hz dX8_bond_33 rfl ?_
        refine r_iload_n hz dX8_bond_36 3 rfl ?_
        refine r_imul hz dX8_bond_37 ?_
        refine r_iload_n hz dX8_bond_38 1 rfl ?_
        refine r_iload_n hz dX8_bond_39 2 rfl ?_
        refine r_callSi (As := fun _ => [.int p1, .int p2]) hz (fun _ _ h => t_X8_bondAt _ _ _ _ _ h) cal_X8_bondAt dX8_bond_40 wm_6_72 wm_6_73 rfl rfl (Nat.le_of_ble_eq_true rfl) ⟨(Nat.le_of_ble_eq_true rfl), (Nat.le_of_ble_eq_true rfl)⟩ ⟨(Nat.le_of_ble_eq_true rfl), (Nat.le_of_ble_eq_true rfl)⟩ (fun v8 M7 => ?_)
        refine r_iadd hz dX8_bond_43 ?_
        refine r_iald hz dX8_bond_44 ?_
        refine r_nmi (fun v9 => ?_)
        refine r_istore (lv' := [(4, .int v9), (0, .ref p0), (1, .int p1), (2, .int p2), (3, .int p3)]) hz dX8_bond_45 (by decide) rfl ?_
        refine r_iload_n hz dX8_bond_47 4 rfl ?_
        refine r_iconst (v := 1) hz dX8_bond_48 rfl ?_
        refine r_icmp_ne (tgt := 59) hz dX8_bond_49 rfl ?_ ?_
        · refine r_iload hz dX8_bond_59 0 rfl ?_
          exact r_iret hz hq dX8_bond_61 (Nat.le_of_ble_eq_true rfl) (Nat.le_of_ble_eq_true rfl)
        · refine r_iload hz dX8_bond_52 0 rfl ?_
          refine r_iconst (v := 1) hz dX8_bond_54 rfl ?_
          refine r_isub hz dX8_bond_55 ?_
          refine r_goto (tgt := 61) hz dX8_bond_56 rfl ?_
          exact r_iret hz hq dX8_bond_61 (Nat.le_of_ble_eq_true rfl) (Nat.le_of_ble_eq_true rfl)
      · refine r_bipush (v := -2) hz dX8_bond_26 rfl ?_
        exact r_iret hz hq dX8_bond_28 (Nat.le_of_ble_eq_true rfl) (Nat.le_of_ble_eq_true rfl)
  exact key x M' h ⟨rfl, rfl⟩
