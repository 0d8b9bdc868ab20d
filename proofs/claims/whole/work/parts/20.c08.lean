theorem dX7_isPassed_0 : decode cX7_isPassed 0 = .ok (.aload_n 0, 1) := by decide +kernel
theorem dX7_isPassed_1 : decode cX7_isPassed 1 = .ok (.iload_n 1, 1) := by decide +kernel
theorem dX7_isPassed_2 : decode cX7_isPassed 2 = .ok (.invokevirtual 116, 3) := by decide +kernel
theorem dX7_isPassed_5 : decode cX7_isPassed 5 = .ok (.ifCond .eq 36, 3) := by decide +kernel
theorem dX7_isPassed_8 : decode cX7_isPassed 8 = .ok (.iload_n 2, 1) := by decide +kernel
theorem dX7_isPassed_9 : decode cX7_isPassed 9 = .ok (.iconst 1, 1) := by decide +kernel
theorem dX7_isPassed_10 : decode cX7_isPassed 10 = .ok (.if_icmp .lt 31, 3) := by decide +kernel
theorem dX7_isPassed_13 : decode cX7_isPassed 13 = .ok (.iload_n 2, 1) := by decide +kernel
theorem dX7_isPassed_14 : decode cX7_isPassed 14 = .ok (.aload_n 0, 1) := by decide +kernel
theorem dX7_isPassed_15 : decode cX7_isPassed 15 = .ok (.getfield 19, 3) := by decide +kernel
theorem dX7_isPassed_18 : decode cX7_isPassed 18 = .ok (.getfield 102, 3) := by decide +kernel
theorem dX7_isPassed_21 : decode cX7_isPassed 21 = .ok (.if_icmp .gt 20, 3) := by decide +kernel
theorem dX7_isPassed_24 : decode cX7_isPassed 24 = .ok (.iload_n 2, 1) := by decide +kernel
theorem dX7_isPassed_25 : decode cX7_isPassed 25 = .ok (.aload_n 0, 1) := by decide +kernel
theorem dX7_isPassed_26 : decode cX7_isPassed 26 = .ok (.getfield 10, 3) := by decide +kernel
theorem dX7_isPassed_29 : decode cX7_isPassed 29 = .ok (.getfield 137, 3) := by decide +kernel
theorem dX7_isPassed_32 : decode cX7_isPassed 32 = .ok (.iload_n 1, 1) := by decide +kernel
theorem dX7_isPassed_33 : decode cX7_isPassed 33 = .ok (.iaload, 1) := by decide +kernel
theorem dX7_isPassed_34 : decode cX7_isPassed 34 = .ok (.if_icmp .gt 7, 3) := by decide +kernel
theorem dX7_isPassed_37 : decode cX7_isPassed 37 = .ok (.iconst 1, 1) := by decide +kernel
theorem dX7_isPassed_38 : decode cX7_isPassed 38 = .ok (.goto 4, 3) := by decide +kernel
theorem dX7_isPassed_41 : decode cX7_isPassed 41 = .ok (.iconst 0, 1) := by decide +kernel
theorem dX7_isPassed_42 : decode cX7_isPassed 42 = .ok (.ireturn, 1) := by decide +kernel
abbrev rX7_isPassed : Room := { frames := 1, cells := 0, slots := 0, locals := 21 }
theorem cal_X7_isPassed : CalOk yX7_isPassed cX7_isPassed 3 (some .boolean) 2 := ⟨wm_4_173, wm_1_1, by decide, by decide, by decide +kernel⟩
def f_X7_isPassed (p0 : Nat) (p1 : Int32) (p2 : Int32) (M : Mm) : Option (Int32 × Mm) :=
  ck (gK M p0 = 7) (bd (f_X7_isLoan p0 p1 M) fun v2 M1 =>
  (if v2 = 0 then
    some ((0 : Int32), M1)
  else
    (if p2 < (1 : Int32) then
      some ((0 : Int32), M1)
    else
      ck (gK M1 p0 = 7) (bR (gR M1 p0 1) fun q3 => ck (gK M1 q3 = 5) ((if (gI M1 q3 0) < p2 then
        some ((0 : Int32), M1)
      else
        ck (gK M1 p0 = 7) (bR (gR M1 p0 0) fun q4 => ck (gK M1 q4 = 6) (bR (gR M1 q4 9) fun q5 => ck (gK M1 q5 = 10 ∧ inb p1 (gN M1 q5)) ((if (gI M1 q5 (p1).toNatClampNeg) < p2 then
          some ((0 : Int32), M1)
        else
          some ((1 : Int32), M1)))))))))))
set_option maxRecDepth 20000 in
set_option maxHeartbeats 4000000 in
theorem t_X7_isPassed (p0 : Nat) (p1 : Int32) (p2 : Int32) (M : Mm) (x : Int32) (M' : Mm) (h : f_X7_isPassed p0 p1 p2 M = some (x, M')) : Ctr yX7_isPassed cX7_isPassed 3 (some .boolean) rX7_isPassed (fun _ => [.ref p0, .int p1, .int p2]) M (zI x) M' := by
  refine ctr_of (plainFor_of_name (by decide)) (fun _ => Nat.le_of_ble_eq_true rfl) (fun z hz hin hq => ?_)
  have key : Sim z 0 [(0, .ref p0), (1, .int p1), (2, .int p2)] [] M 0 0 (f_X7_isPassed p0 p1 p2 M) (fun a b => a = x ∧ b = M') := by
    have hq : Ret z zI (fun a b => a = x ∧ b = M') := fun a b e => by rw [e.1, e.2]; exact hq
    unfold f_X7_isPassed
    refine r_aload_n hz dX7_isPassed_0 0 rfl ?_
    refine r_iload_n hz dX7_isPassed_1 1 rfl ?_
    refine r_callVi (As := fun _ => [.int p1]) cl7 hz (fun _ _ h => t_X7_isLoan _ _ _ _ _ h) cal_X7_isLoan dX7_isPassed_2 wm_3_149 wm_3_151 wm_p_25 rfl rfl (Nat.le_of_ble_eq_true rfl) ⟨(Nat.le_of_ble_eq_true rfl), (Nat.le_of_ble_eq_true rfl)⟩ ⟨(Nat.le_of_ble_eq_true rfl), (Nat.le_of_ble_eq_true rfl)⟩ (fun v2 M1 => ?_)
    refine r_if_eq (tgt := 41) hz dX7_isPassed_5 rfl ?_ ?_
    · refine r_iconst (v := 0) hz dX7_isPassed_41 rfl ?_
      exact r_zret hz hq dX7_isPassed_42 (Or.inl rfl) (Nat.le_of_ble_eq_true rfl) (Nat.le_of_ble_eq_true rfl)
    · refine r_iload_n hz dX7_isPassed_8 2 rfl ?_
      refine r_iconst (v := 1) hz dX7_isPassed_9 rfl ?_
      refine r_icmp_lt (tgt := 41) hz dX7_isPassed_10 rfl ?_ ?_
      · refine r_iconst (v := 0) hz dX7_isPassed_41 rfl ?_
        exact r_zret hz hq dX7_isPassed_42 (Or.inl rfl) (Nat.le_of_ble_eq_true rfl) (Nat.le_of_ble_eq_true rfl)
      · refine r_iload_n hz dX7_isPassed_13 2 rfl ?_
        refine r_aload_n hz dX7_isPassed_14 0 rfl ?_
        refine r_getR (j := 1) cl7 hz dX7_isPassed_15 (by decide) wm_2_105 rfl (fun q3 => ?_)
        refine r_getI (j := 0) cl5 hz dX7_isPassed_18 (by decide) wm_1_142 rfl ?_
        refine r_icmp_gt (tgt := 41) hz dX7_isPassed_21 rfl ?_ ?_
        · refine r_iconst (v := 0) hz dX7_isPassed_41 rfl ?_
          exact r_zret hz hq dX7_isPassed_42 (Or.inl rfl) (Nat.le_of_ble_eq_true rfl) (Nat.le_of_ble_eq_true rfl)
        · refine r_iload_n hz dX7_isPassed_24 2 rfl ?_
          refine r_aload_n hz dX7_isPassed_25 0 rfl ?_
          refine r_getR (j := 0) cl7 hz dX7_isPassed_26 (by decide) wm_2_104 rfl (fun q4 => ?_)
          refine r_getR (j := 9) cl6 hz dX7_isPassed_29 (by decide) wm_1_71 rfl (fun q5 => ?_)
          refine r_iload_n hz dX7_isPassed_32 1 rfl ?_
          refine r_iald hz dX7_isPassed_33 ?_
          refine r_icmp_gt (tgt := 41) hz dX7_isPassed_34 rfl ?_ ?_
          · refine r_iconst (v := 0) hz dX7_isPassed_41 rfl ?_
            exact r_zret hz hq dX7_isPassed_42 (Or.inl rfl) (Nat.le_of_ble_eq_true rfl) (Nat.le_of_ble_eq_true rfl)
          · refine r_iconst (v := 1) hz dX7_isPassed_37 rfl ?_
            refine r_goto (tgt := 42) hz dX7_isPassed_38 rfl ?_
            exact r_zret hz hq dX7_isPassed_42 (Or.inr rfl) (Nat.le_of_ble_eq_true rfl) (Nat.le_of_ble_eq_true rfl)
  exact key x M' h ⟨rfl, rfl⟩
theorem dX7_lot_0 : decode cX7_lot 0 = .ok (.aload_n 0, 1) := by decide +kernel
theorem dX7_lot_1 : decode cX7_lot 1 = .ok (.iload_n 1, 1) := by decide +kernel
theorem dX7_lot_2 : decode cX7_lot 2 = .ok (.iload_n 2, 1) := by decide +kernel
theorem dX7_lot_3 : decode cX7_lot 3 = .ok (.invokevirtual 326, 3) := by decide +kernel
theorem dX7_lot_6 : decode cX7_lot 6 = .ok (.ifCond .eq 7, 3) := by decide +kernel
theorem dX7_lot_9 : decode cX7_lot 9 = .ok (.iload_n 3, 1) := by decide +kernel
theorem dX7_lot_10 : decode cX7_lot 10 = .ok (.ifCond .ge 5, 3) := by decide +kernel
theorem dX7_lot_13 : decode cX7_lot 13 = .ok (.iconst (-1), 1) := by decide +kernel
theorem dX7_lot_14 : decode cX7_lot 14 = .ok (.ireturn, 1) := by decide +kernel
theorem dX7_lot_15 : decode cX7_lot 15 = .ok (.iload_n 3, 1) := by decide +kernel
theorem dX7_lot_16 : decode cX7_lot 16 = .ok (.ifCond .ne 17, 3) := by decide +kernel
theorem dX7_lot_19 : decode cX7_lot 19 = .ok (.aload_n 0, 1) := by decide +kernel
theorem dX7_lot_20 : decode cX7_lot 20 = .ok (.getfield 19, 3) := by decide +kernel
theorem dX7_lot_23 : decode cX7_lot 23 = .ok (.aload_n 0, 1) := by decide +kernel
theorem dX7_lot_24 : decode cX7_lot 24 = .ok (.getfield 10, 3) := by decide +kernel
theorem dX7_lot_27 : decode cX7_lot 27 = .ok (.iload_n 1, 1) := by decide +kernel
theorem dX7_lot_28 : decode cX7_lot 28 = .ok (.iload_n 2, 1) := by decide +kernel
theorem dX7_lot_29 : decode cX7_lot 29 = .ok (.invokevirtual 329, 3) := by decide +kernel
theorem dX7_lot_32 : decode cX7_lot 32 = .ok (.ireturn, 1) := by decide +kernel
theorem dX7_lot_33 : decode cX7_lot 33 = .ok (.aload_n 0, 1) := by decide +kernel
theorem dX7_lot_34 : decode cX7_lot 34 = .ok (.getfield 19, 3) := by decide +kernel
theorem dX7_lot_37 : decode cX7_lot 37 = .ok (.aload_n 0, 1) := by decide +kernel
theorem dX7_lot_38 : decode cX7_lot 38 = .ok (.getfield 10, 3) := by decide +kernel
theorem dX7_lot_41 : decode cX7_lot 41 = .ok (.iload_n 1, 1) := by decide +kernel
theorem dX7_lot_42 : decode cX7_lot 42 = .ok (.iload_n 2, 1) := by decide +kernel
theorem dX7_lot_43 : decode cX7_lot 43 = .ok (.iload_n 3, 1) := by decide +kernel
theorem dX7_lot_44 : decode cX7_lot 44 = .ok (.invokevirtual 332, 3) := by decide +kernel
theorem dX7_lot_47 : decode cX7_lot 47 = .ok (.istore 4, 2) := by decide +kernel
theorem dX7_lot_49 : decode cX7_lot 49 = .ok (.iload 4, 2) := by decide +kernel
theorem dX7_lot_51 : decode cX7_lot 51 = .ok (.ifCond .ne 7, 3) := by decide +kernel
theorem dX7_lot_54 : decode cX7_lot 54 = .ok (.iconst (-1), 1) := by decide +kernel
theorem dX7_lot_55 : decode cX7_lot 55 = .ok (.goto 5, 3) := by decide +kernel
theorem dX7_lot_58 : decode cX7_lot 58 = .ok (.iload 4, 2) := by decide +kernel
theorem dX7_lot_60 : decode cX7_lot 60 = .ok (.ireturn, 1) := by decide +kernel
abbrev rX7_lot : Room := { frames := 2, cells := 0, slots := 0, locals := 47 }
theorem cal_X7_lot : CalOk yX7_lot cX7_lot 5 (some .int) 3 := ⟨wm_4_169, wm_1_1, by decide, by decide, by decide +kernel⟩
def f_X7_lot (p0 : Nat) (p1 : Int32) (p2 : Int32) (p3 : Int32) (M : Mm) : Option (Int32 × Mm) :=
  ck (gK M p0 = 7) (bd (f_X7_isPassed p0 p1 p2 M) fun v2 M1 =>
  (if v2 = 0 then
    some ((-1 : Int32), M1)
  else
    (if 0 ≤ p3 then
      (if ¬ p3 = 0 then
        ck (gK M1 p0 = 7) (bR (gR M1 p0 1) fun q3 => ck (gK M1 p0 = 7) (bR (gR M1 p0 0) fun q4 => ck (gK M1 q3 = 5) (bd (f_X5_drawnAs q3 q4 p1 p2 p3 M1) fun v6 M5 =>
        (if ¬ v6 = 0 then
          some (v6, M5)
        else
          some ((-1 : Int32), M5)))))
      else
        ck (gK M1 p0 = 7) (bR (gR M1 p0 1) fun q7 => ck (gK M1 p0 = 7) (bR (gR M1 p0 0) fun q8 => ck (gK M1 q7 = 5) (bd (f_X5_countRetired q7 q8 p1 p2 M1) fun v10 M9 =>
        some (v10, M9)))))
    else
      some ((-1 : Int32), M1))))
set_option maxRecDepth 20000 in
set_option maxHeartbeats 4000000 in
theorem t_X7_lot (p0 : Nat) (p1 : Int32) (p2 : Int32) (p3 : Int32) (M : Mm) (x : Int32) (M' : Mm) (h : f_X7_lot p0 p1 p2 p3 M = some (x, M')) : Ctr yX7_lot cX7_lot 5 (some .int) rX7_lot (fun _ => [.ref p0, .int p1, .int p2, .int p3]) M (zI x) M' := by
  refine ctr_of (plainFor_of_name (by decide)) (fun _ => Nat.le_of_ble_eq_true rfl) (fun z hz hin hq => ?_)
  have key : Sim z 0 [(0, .ref p0), (1, .int p1), (2, .int p2), (3, .int p3)] [] M 0 0 (f_X7_lot p0 p1 p2 p3 M) (fun a b => a = x ∧ b = M') := by
    have hq : Ret z zI (fun a b => a = x ∧ b = M') := fun a b e => by rw [e.1, e.2]; exact hq
    unfold f_X7_lot
    refine r_aload_n hz dX7_lot_0 0 rfl ?_
    refine r_iload_n hz dX7_lot_1 1 rfl ?_
    refine r_iload_n hz dX7_lot_2 2 rfl ?_
    refine r_callVi (As := fun _ => [.int p1, .int p2]) cl7 hz (fun _ _ h => t_X7_isPassed _ _ _ _ _ _ h) cal_X7_isPassed dX7_lot_3 wm_4_170 wm_4_172 wm_p_40 rfl rfl (Nat.le_of_ble_eq_true rfl) ⟨(Nat.le_of_ble_eq_true rfl), (Nat.le_of_ble_eq_true rfl)⟩ ⟨(Nat.le_of_ble_eq_true rfl), (Nat.le_of_ble_eq_true rfl)⟩ (fun v2 M1 => ?_)
    refine r_if_eq (tgt := 13) hz dX7_lot_6 rfl ?_ ?_
    · refine r_iconst (v := -1) hz dX7_lot_13 rfl ?_
      exact r_iret hz hq dX7_lot_14 (Nat.le_of_ble_eq_true rfl) (Nat.le_of_ble_eq_true rfl)
    · refine r_iload_n hz dX7_lot_9 3 rfl ?_
      refine r_if_ge (tgt := 15) hz dX7_lot_10 rfl ?_ ?_
      · refine r_iload_n hz dX7_lot_15 3 rfl ?_
        refine r_if_ne (tgt := 33) hz dX7_lot_16 rfl ?_ ?_
        · refine r_aload_n hz dX7_lot_33 0 rfl ?_
          refine r_getR (j := 1) cl7 hz dX7_lot_34 (by decide) wm_2_105 rfl (fun q3 => ?_)
          refine r_aload_n hz dX7_lot_37 0 rfl ?_
          refine r_getR (j := 0) cl7 hz dX7_lot_38 (by decide) wm_2_104 rfl (fun q4 => ?_)
          refine r_iload_n hz dX7_lot_41 1 rfl ?_
          refine r_iload_n hz dX7_lot_42 2 rfl ?_
          refine r_iload_n hz dX7_lot_43 3 rfl ?_
          refine r_callVi (As := fun _ => [.ref q4, .int p1, .int p2, .int p3]) cl5 hz (fun _ _ h => t_X5_drawnAs _ _ _ _ _ _ _ _ h) cal_X5_drawnAs dX7_lot_44 wm_4_178 wm_4_179 wm_4_180 rfl rfl (Nat.le_of_ble_eq_true rfl) ⟨(Nat.le_of_ble_eq_true rfl), (Nat.le_of_ble_eq_true rfl)⟩ ⟨(Nat.le_of_ble_eq_true rfl), (Nat.le_of_ble_eq_true rfl)⟩ (fun v6 M5 => ?_)
          refine r_istore (lv' := [(4, .int v6), (0, .ref p0), (1, .int p1), (2, .int p2), (3, .int p3)]) hz dX7_lot_47 (by decide) rfl ?_
          refine r_iload hz dX7_lot_49 0 rfl ?_
          refine r_if_ne (tgt := 58) hz dX7_lot_51 rfl ?_ ?_
          · refine r_iload hz dX7_lot_58 0 rfl ?_
            exact r_iret hz hq dX7_lot_60 (Nat.le_of_ble_eq_true rfl) (Nat.le_of_ble_eq_true rfl)
          · refine r_iconst (v := -1) hz dX7_lot_54 rfl ?_
            refine r_goto (tgt := 60) hz dX7_lot_55 rfl ?_
            exact r_iret hz hq dX7_lot_60 (Nat.le_of_ble_eq_true rfl) (Nat.le_of_ble_eq_true rfl)
        · refine r_aload_n hz dX7_lot_19 0 rfl ?_
          refine r_getR (j := 1) cl7 hz dX7_lot_20 (by decide) wm_2_105 rfl (fun q7 => ?_)
          refine r_aload_n hz dX7_lot_23 0 rfl ?_
          refine r_getR (j := 0) cl7 hz dX7_lot_24 (by decide) wm_2_104 rfl (fun q8 => ?_)
          refine r_iload_n hz dX7_lot_27 1 rfl ?_
          refine r_iload_n hz dX7_lot_28 2 rfl ?_
          refine r_callVi (As := fun _ => [.ref q8, .int p1, .int p2]) cl5 hz (fun _ _ h => t_X5_countRetired _ _ _ _ _ _ _ h) cal_X5_countRetired dX7_lot_29 wm_4_174 wm_4_175 wm_4_176 rfl rfl (Nat.le_of_ble_eq_true rfl) ⟨(Nat.le_of_ble_eq_true rfl), (Nat.le_of_ble_eq_true rfl)⟩ ⟨(Nat.le_of_ble_eq_true rfl), (Nat.le_of_ble_eq_true rfl)⟩ (fun v10 M9 => ?_)
          exact r_iret hz hq dX7_lot_32 (Nat.le_of_ble_eq_true rfl) (Nat.le_of_ble_eq_true rfl)
      · refine r_iconst (v := -1) hz dX7_lot_13 rfl ?_
        exact r_iret hz hq dX7_lot_14 (Nat.le_of_ble_eq_true rfl) (Nat.le_of_ble_eq_true rfl)
  exact key x M' h ⟨rfl, rfl⟩
theorem dX7_replayed_0 : decode cX7_replayed 0 = .ok (.aload_n 0, 1) := by decide +kernel
theorem dX7_replayed_1 : decode cX7_replayed 1 = .ok (.iload_n 1, 1) := by decide +kernel
theorem dX7_replayed_2 : decode cX7_replayed 2 = .ok (.iload_n 2, 1) := by decide +kernel
theorem dX7_replayed_3 : decode cX7_replayed 3 = .ok (.invokevirtual 326, 3) := by decide +kernel
theorem dX7_replayed_6 : decode cX7_replayed 6 = .ok (.ifCond .eq 14, 3) := by decide +kernel
theorem dX7_replayed_9 : decode cX7_replayed 9 = .ok (.iload_n 3, 1) := by decide +kernel
theorem dX7_replayed_10 : decode cX7_replayed 10 = .ok (.ifCond .lt 10, 3) := by decide +kernel
theorem dX7_replayed_13 : decode cX7_replayed 13 = .ok (.iload_n 3, 1) := by decide +kernel
theorem dX7_replayed_14 : decode cX7_replayed 14 = .ok (.ldc_w 256, 3) := by decide +kernel
theorem dX7_replayed_17 : decode cX7_replayed 17 = .ok (.if_icmp .le 5, 3) := by decide +kernel
theorem dX7_replayed_20 : decode cX7_replayed 20 = .ok (.iconst (-1), 1) := by decide +kernel
theorem dX7_replayed_21 : decode cX7_replayed 21 = .ok (.ireturn, 1) := by decide +kernel
theorem dX7_replayed_22 : decode cX7_replayed 22 = .ok (.aload_n 0, 1) := by decide +kernel
theorem dX7_replayed_23 : decode cX7_replayed 23 = .ok (.getfield 59, 3) := by decide +kernel
theorem dX7_replayed_26 : decode cX7_replayed 26 = .ok (.aload_n 0, 1) := by decide +kernel
theorem dX7_replayed_27 : decode cX7_replayed 27 = .ok (.getfield 10, 3) := by decide +kernel
theorem dX7_replayed_30 : decode cX7_replayed 30 = .ok (.aload_n 0, 1) := by decide +kernel
theorem dX7_replayed_31 : decode cX7_replayed 31 = .ok (.getfield 19, 3) := by decide +kernel
theorem dX7_replayed_34 : decode cX7_replayed 34 = .ok (.iload_n 1, 1) := by decide +kernel
theorem dX7_replayed_35 : decode cX7_replayed 35 = .ok (.iload_n 2, 1) := by decide +kernel
theorem dX7_replayed_36 : decode cX7_replayed 36 = .ok (.iload_n 3, 1) := by decide +kernel
theorem dX7_replayed_37 : decode cX7_replayed 37 = .ok (.ifCond .ne 19, 3) := by decide +kernel
theorem dX7_replayed_40 : decode cX7_replayed 40 = .ok (.aload_n 0, 1) := by decide +kernel
theorem dX7_replayed_41 : decode cX7_replayed 41 = .ok (.getfield 19, 3) := by decide +kernel
theorem dX7_replayed_44 : decode cX7_replayed 44 = .ok (.getfield 215, 3) := by decide +kernel
theorem dX7_replayed_47 : decode cX7_replayed 47 = .ok (.iload_n 1, 1) := by decide +kernel
theorem dX7_replayed_48 : decode cX7_replayed 48 = .ok (.iload_n 2, 1) := by decide +kernel
theorem dX7_replayed_49 : decode cX7_replayed 49 = .ok (.invokestatic 196, 3) := by decide +kernel
theorem dX7_replayed_52 : decode cX7_replayed 52 = .ok (.iaload, 1) := by decide +kernel
theorem dX7_replayed_53 : decode cX7_replayed 53 = .ok (.goto 4, 3) := by decide +kernel
theorem dX7_replayed_56 : decode cX7_replayed 56 = .ok (.iload_n 3, 1) := by decide +kernel
theorem dX7_replayed_57 : decode cX7_replayed 57 = .ok (.invokevirtual 218, 3) := by decide +kernel
theorem dX7_replayed_60 : decode cX7_replayed 60 = .ok (.aload_n 0, 1) := by decide +kernel
theorem dX7_replayed_61 : decode cX7_replayed 61 = .ok (.getfield 19, 3) := by decide +kernel
theorem dX7_replayed_64 : decode cX7_replayed 64 = .ok (.aload_n 0, 1) := by decide +kernel
theorem dX7_replayed_65 : decode cX7_replayed 65 = .ok (.getfield 10, 3) := by decide +kernel
theorem dX7_replayed_68 : decode cX7_replayed 68 = .ok (.iload_n 1, 1) := by decide +kernel
theorem dX7_replayed_69 : decode cX7_replayed 69 = .ok (.iload_n 2, 1) := by decide +kernel
theorem dX7_replayed_70 : decode cX7_replayed 70 = .ok (.invokevirtual 329, 3) := by decide +kernel
theorem dX7_replayed_73 : decode cX7_replayed 73 = .ok (.istore 4, 2) := by decide +kernel
theorem dX7_replayed_75 : decode cX7_replayed 75 = .ok (.iconst 0, 1) := by decide +kernel
theorem dX7_replayed_76 : decode cX7_replayed 76 = .ok (.istore 5, 2) := by decide +kernel
theorem dX7_replayed_78 : decode cX7_replayed 78 = .ok (.iload 5, 2) := by decide +kernel
theorem dX7_replayed_80 : decode cX7_replayed 80 = .ok (.iload 4, 2) := by decide +kernel
theorem dX7_replayed_82 : decode cX7_replayed 82 = .ok (.if_icmp .ge 36, 3) := by decide +kernel
theorem dX7_replayed_85 : decode cX7_replayed 85 = .ok (.aload_n 0, 1) := by decide +kernel
theorem dX7_replayed_86 : decode cX7_replayed 86 = .ok (.getfield 59, 3) := by decide +kernel
theorem dX7_replayed_89 : decode cX7_replayed 89 = .ok (.invokevirtual 228, 3) := by decide +kernel
theorem dX7_replayed_92 : decode cX7_replayed 92 = .ok (.aload_n 0, 1) := by decide +kernel
theorem dX7_replayed_93 : decode cX7_replayed 93 = .ok (.getfield 19, 3) := by decide +kernel
theorem dX7_replayed_96 : decode cX7_replayed 96 = .ok (.aload_n 0, 1) := by decide +kernel
theorem dX7_replayed_97 : decode cX7_replayed 97 = .ok (.getfield 10, 3) := by decide +kernel
theorem dX7_replayed_100 : decode cX7_replayed 100 = .ok (.iload_n 1, 1) := by decide +kernel
theorem dX7_replayed_101 : decode cX7_replayed 101 = .ok (.iload_n 2, 1) := by decide +kernel
theorem dX7_replayed_102 : decode cX7_replayed 102 = .ok (.iload 5, 2) := by decide +kernel
theorem dX7_replayed_104 : decode cX7_replayed 104 = .ok (.iconst 1, 1) := by decide +kernel
theorem dX7_replayed_105 : decode cX7_replayed 105 = .ok (.iadd, 1) := by decide +kernel
theorem dX7_replayed_106 : decode cX7_replayed 106 = .ok (.invokevirtual 332, 3) := by decide +kernel
theorem dX7_replayed_109 : decode cX7_replayed 109 = .ok (.if_icmp .ne 9, 3) := by decide +kernel
theorem dX7_replayed_112 : decode cX7_replayed 112 = .ok (.iinc 5 1, 3) := by decide +kernel
theorem dX7_replayed_115 : decode cX7_replayed 115 = .ok (.goto (-37), 3) := by decide +kernel
theorem dX7_replayed_118 : decode cX7_replayed 118 = .ok (.iload 5, 2) := by decide +kernel
theorem dX7_replayed_120 : decode cX7_replayed 120 = .ok (.ireturn, 1) := by decide +kernel
abbrev rX7_replayed : Room := { frames := 2, cells := 0, slots := 0, locals := 48 }
theorem cal_X7_replayed : CalOk yX7_replayed cX7_replayed 6 (some .int) 3 := ⟨wm_4_185, wm_1_1, by decide, by decide, by decide +kernel⟩
def f_X7_replayed_78 : Nat → Nat → Int32 → Int32 → Int32 → Int32 → Mm → Option (Int32 × Mm)
  | 0, _, _, _, _, _, _ => none
  | n + 1, x0, x1, x2, x4, x5, M =>
    (if x4 ≤ x5 then
      some (x5, M)
    else
      ck (gK M x0 = 7) (bR (gR M x0 9) fun q1 => ck (gK M q1 = 1) (bd (f_X1_draw q1 M) fun v3 M2 =>
      ck (gK M2 x0 = 7) (bR (gR M2 x0 1) fun q4 => ck (gK M2 x0 = 7) (bR (gR M2 x0 0) fun q5 => ck (gK M2 q4 = 5) (bd (f_X5_drawnAs q4 q5 x1 x2 (x5 + (1 : Int32)) M2) fun v7 M6 =>
      (if ¬ v3 = v7 then
        some (x5, M6)
      else
        f_X7_replayed_78 n x0 x1 x2 x4 (x5 + (1 : Int32)) M6)))))))
set_option maxRecDepth 20000 in
set_option maxHeartbeats 4000000 in
theorem s_X7_replayed_78 {z : Zt} {K : Int32 → Mm → Prop} (hz : Good z RX7 cX7_replayed 6 rX7_replayed (some .int)) (hq : Ret z zI K) : ∀ (n : Nat) (x0 : Nat) (x1 : Int32) (x2 : Int32) (x4 : Int32) (x5 : Int32) (M : Mm), Sim z 78 [(0, .ref x0), (1, .int x1), (2, .int x2), (4, .int x4), (5, .int x5)] [] M 0 0 (f_X7_replayed_78 n x0 x1 x2 x4 x5 M) K := by
  intro n
  induction n with
  | zero => exact fun _ _ _ _ _ _ => r_none
  | succ n ih =>
    intro x0 x1 x2 x4 x5 M
    unfold f_X7_replayed_78
    refine r_iload hz dX7_replayed_78 4 rfl ?_
    refine r_iload hz dX7_replayed_80 3 rfl ?_
    refine r_icmp_ge (tgt := 118) hz dX7_replayed_82 rfl ?_ ?_
    · refine r_iload hz dX7_replayed_118 4 rfl ?_
      exact r_iret hz hq dX7_replayed_120 (Nat.le_of_ble_eq_true rfl) (Nat.le_of_ble_eq_true rfl)
    · refine r_aload_n hz dX7_replayed_85 0 rfl ?_
      refine r_getR (j := 9) cl7 hz dX7_replayed_86 (by decide) wm_2_113 rfl (fun q1 => ?_)
      refine r_callVi (As := fun _ => []) cl1 hz (fun _ _ h => t_X1_draw _ _ _ _ h) cal_X1_draw dX7_replayed_89 wm_4_11 wm_4_12 wm_4_13 rfl rfl (Nat.le_of_ble_eq_true rfl) ⟨(Nat.le_of_ble_eq_true rfl), (Nat.le_of_ble_eq_true rfl)⟩ ⟨(Nat.le_of_ble_eq_true rfl), (Nat.le_of_ble_eq_true rfl)⟩ (fun v3 M2 => ?_)
      refine r_aload_n hz dX7_replayed_92 0 rfl ?_
      refine r_getR (j := 1) cl7 hz dX7_replayed_93 (by decide) wm_2_105 rfl (fun q4 => ?_)
      refine r_aload_n hz dX7_replayed_96 0 rfl ?_
      refine r_getR (j := 0) cl7 hz dX7_replayed_97 (by decide) wm_2_104 rfl (fun q5 => ?_)
      refine r_iload_n hz dX7_replayed_100 1 rfl ?_
      refine r_iload_n hz dX7_replayed_101 2 rfl ?_
      refine r_iload hz dX7_replayed_102 4 rfl ?_
      refine r_iconst (v := 1) hz dX7_replayed_104 rfl ?_
      refine r_iadd hz dX7_replayed_105 ?_
      refine r_callVi (As := fun _ => [.ref q5, .int x1, .int x2, .int (x5 + (1 : Int32))]) cl5 hz (fun _ _ h => t_X5_drawnAs _ _ _ _ _ _ _ _ h) cal_X5_drawnAs dX7_replayed_106 wm_4_178 wm_4_179 wm_4_180 rfl rfl (Nat.le_of_ble_eq_true rfl) ⟨(Nat.le_of_ble_eq_true rfl), (Nat.le_of_ble_eq_true rfl)⟩ ⟨(Nat.le_of_ble_eq_true rfl), (Nat.le_of_ble_eq_true rfl)⟩ (fun v7 M6 => ?_)
      refine r_icmp_ne (tgt := 118) hz dX7_replayed_109 rfl ?_ ?_
      · refine r_iload hz dX7_replayed_118 4 rfl ?_
        exact r_iret hz hq dX7_replayed_120 (Nat.le_of_ble_eq_true rfl) (Nat.le_of_ble_eq_true rfl)
      · refine r_iinc (v := (x5 + (1 : Int32))) (lv' := [(5, .int (x5 + (1 : Int32))), (0, .ref x0), (1, .int x1), (2, .int x2), (4, .int x4)]) hz dX7_replayed_112 4 rfl rfl (by decide) rfl ?_
        refine r_goto (tgt := 78) hz dX7_replayed_115 rfl ?_
        refine r_sub [1, 2, 3, 4, 0] rfl ?_
        exact ih x0 x1 x2 x4 (x5 + (1 : Int32)) M6
def f_X7_replayed (p0 : Nat) (p1 : Int32) (p2 : Int32) (p3 : Int32) (M : Mm) : Option (Int32 × Mm) :=
  ck (gK M p0 = 7) (bd (f_X7_isPassed p0 p1 p2 M) fun v2 M1 =>
  (if v2 = 0 then
    some ((-1 : Int32), M1)
  else
    (if p3 < 0 then
      some ((-1 : Int32), M1)
    else
      (if p3 ≤ (2147483646 : Int32) then
        ck (gK M1 p0 = 7) (bR (gR M1 p0 9) fun q3 => ck (gK M1 p0 = 7) (bR (gR M1 p0 0) fun q4 => ck (gK M1 p0 = 7) (bR (gR M1 p0 1) fun q5 => (if ¬ p3 = 0 then
          ck (gK M1 q3 = 1) (bd (f_X1_load q3 q4 q5 p1 p2 p3 M1) fun _ M6 =>
          ck (gK M6 p0 = 7) (bR (gR M6 p0 1) fun q7 => ck (gK M6 p0 = 7) (bR (gR M6 p0 0) fun q8 => ck (gK M6 q7 = 5) (bd (f_X5_countRetired q7 q8 p1 p2 M6) fun v10 M9 =>
          f_X7_replayed_78 FU p0 p1 p2 v10 (0 : Int32) M9))))
        else
          ck (gK M1 p0 = 7) (bR (gR M1 p0 1) fun q11 => ck (gK M1 q11 = 5) (bR (gR M1 q11 5) fun q12 => bd (f_X7_cellOf p1 p2 M1) fun v14 M13 =>
          ck (gK M13 q12 = 10 ∧ inb v14 (gN M13 q12)) (ck (gK M13 q3 = 1) (bd (f_X1_load q3 q4 q5 p1 p2 (gI M13 q12 (v14).toNatClampNeg) M13) fun _ M15 =>
          ck (gK M15 p0 = 7) (bR (gR M15 p0 1) fun q16 => ck (gK M15 p0 = 7) (bR (gR M15 p0 0) fun q17 => ck (gK M15 q16 = 5) (bd (f_X5_countRetired q16 q17 p1 p2 M15) fun v19 M18 =>
          f_X7_replayed_78 FU p0 p1 p2 v19 (0 : Int32) M18)))))))))))
      else
        some ((-1 : Int32), M1)))))
set_option maxRecDepth 20000 in
set_option maxHeartbeats 4000000 in
theorem t_X7_replayed (p0 : Nat) (p1 : Int32) (p2 : Int32) (p3 : Int32) (M : Mm) (x : Int32) (M' : Mm) (h : f_X7_replayed p0 p1 p2 p3 M = some (x, M')) : Ctr yX7_replayed cX7_replayed 6 (some .int) rX7_replayed (fun _ => [.ref p0, .int p1, .int p2, .int p3]) M (zI x) M' := by
  refine ctr_of (plainFor_of_name (by decide)) (fun _ => Nat.le_of_ble_eq_true rfl) (fun z hz hin hq => ?_)
  have key : Sim z 0 [(0, .ref p0), (1, .int p1), (2, .int p2), (3, .int p3)] [] M 0 0 (f_X7_replayed p0 p1 p2 p3 M) (fun a b => a = x ∧ b = M') := by
    have hq : Ret z zI (fun a b => a = x ∧ b = M') := fun a b e => by rw [e.1, e.2]; exact hq
    unfold f_X7_replayed
    refine r_aload_n hz dX7_replayed_0 0 rfl ?_
    refine r_iload_n hz dX7_replayed_1 1 rfl ?_
    refine r_iload_n hz dX7_replayed_2 2 rfl ?_
    refine r_callVi (As := fun _ => [.int p1, .int p2]) cl7 hz (fun _ _ h => t_X7_isPassed _ _ _ _ _ _ h) cal_X7_isPassed dX7_replayed_3 wm_4_170 wm_4_172 wm_p_40 rfl rfl (Nat.le_of_ble_eq_true rfl) ⟨(Nat.le_of_ble_eq_true rfl), (Nat.le_of_ble_eq_true rfl)⟩ ⟨(Nat.le_of_ble_eq_true rfl), (Nat.le_of_ble_eq_true rfl)⟩ (fun v2 M1 => ?_)
    refine r_if_eq (tgt := 20) hz dX7_replayed_6 rfl ?_ ?_
    · refine r_iconst (v := -1) hz dX7_replayed_20 rfl ?_
      exact r_iret hz hq dX7_replayed_21 (Nat.le_of_ble_eq_true rfl) (Nat.le_of_ble_eq_true rfl)
    · refine r_iload_n hz dX7_replayed_9 3 rfl ?_
      refine r_if_lt (tgt := 20) hz dX7_replayed_10 rfl ?_ ?_
      · refine r_iconst (v := -1) hz dX7_replayed_20 rfl ?_
        exact r_iret hz hq dX7_replayed_21 (Nat.le_of_ble_eq_true rfl) (Nat.le_of_ble_eq_true rfl)
      · refine r_iload_n hz dX7_replayed_13 3 rfl ?_
        refine r_ldcw (v := 2147483646) hz dX7_replayed_14 wm_4_57 ?_
        refine r_icmp_le (tgt := 22) hz dX7_replayed_17 rfl ?_ ?_
        · refine r_aload_n hz dX7_replayed_22 0 rfl ?_
          refine r_getR (j := 9) cl7 hz dX7_replayed_23 (by decide) wm_2_113 rfl (fun q3 => ?_)
          refine r_aload_n hz dX7_replayed_26 0 rfl ?_
          refine r_getR (j := 0) cl7 hz dX7_replayed_27 (by decide) wm_2_104 rfl (fun q4 => ?_)
          refine r_aload_n hz dX7_replayed_30 0 rfl ?_
          refine r_getR (j := 1) cl7 hz dX7_replayed_31 (by decide) wm_2_105 rfl (fun q5 => ?_)
          refine r_iload_n hz dX7_replayed_34 1 rfl ?_
          refine r_iload_n hz dX7_replayed_35 2 rfl ?_
          refine r_iload_n hz dX7_replayed_36 3 rfl ?_
          refine r_if_ne (tgt := 56) hz dX7_replayed_37 rfl ?_ ?_
          · refine r_iload_n hz dX7_replayed_56 3 rfl ?_
            refine r_callVv (As := fun _ => [.ref q4, .ref q5, .int p1, .int p2, .int p3]) cl1 hz (fun _ _ h => t_X1_load _ _ _ _ _ _ _ _ _ h) cal_X1_load dX7_replayed_57 wm_4_6 wm_4_7 wm_4_8 rfl rfl (Nat.le_of_ble_eq_true rfl) ⟨(Nat.le_of_ble_eq_true rfl), (Nat.le_of_ble_eq_true rfl)⟩ ⟨(Nat.le_of_ble_eq_true rfl), (Nat.le_of_ble_eq_true rfl)⟩ (fun _ M6 => ?_)
            refine r_aload_n hz dX7_replayed_60 0 rfl ?_
            refine r_getR (j := 1) cl7 hz dX7_replayed_61 (by decide) wm_2_105 rfl (fun q7 => ?_)
            refine r_aload_n hz dX7_replayed_64 0 rfl ?_
            refine r_getR (j := 0) cl7 hz dX7_replayed_65 (by decide) wm_2_104 rfl (fun q8 => ?_)
            refine r_iload_n hz dX7_replayed_68 1 rfl ?_
            refine r_iload_n hz dX7_replayed_69 2 rfl ?_
            refine r_callVi (As := fun _ => [.ref q8, .int p1, .int p2]) cl5 hz (fun _ _ h => t_X5_countRetired _ _ _ _ _ _ _ h) cal_X5_countRetired dX7_replayed_70 wm_4_174 wm_4_175 wm_4_176 rfl rfl (Nat.le_of_ble_eq_true rfl) ⟨(Nat.le_of_ble_eq_true rfl), (Nat.le_of_ble_eq_true rfl)⟩ ⟨(Nat.le_of_ble_eq_true rfl), (Nat.le_of_ble_eq_true rfl)⟩ (fun v10 M9 => ?_)
            refine r_istore (lv' := [(4, .int v10), (0, .ref p0), (1, .int p1), (2, .int p2), (3, .int p3)]) hz dX7_replayed_73 (by decide) rfl ?_
            refine r_iconst (v := 0) hz dX7_replayed_75 rfl ?_
            refine r_istore (lv' := [(5, .int (0 : Int32)), (4, .int v10), (0, .ref p0), (1, .int p1), (2, .int p2), (3, .int p3)]) hz dX7_replayed_76 (by decide) rfl ?_
            refine r_sub [2, 3, 4, 1, 0] rfl ?_
            exact s_X7_replayed_78 hz hq FU p0 p1 p2 v10 (0 : Int32) M9
          · refine r_aload_n hz dX7_replayed_40 0 rfl ?_
            refine r_getR (j := 1) cl7 hz dX7_replayed_41 (by decide) wm_2_105 rfl (fun q11 => ?_)
            refine r_getR (j := 5) cl5 hz dX7_replayed_44 (by decide) wm_1_154 rfl (fun q12 => ?_)
            refine r_iload_n hz dX7_replayed_47 1 rfl ?_
            refine r_iload_n hz dX7_replayed_48 2 rfl ?_
            refine r_callSi (As := fun _ => [.int p1, .int p2]) hz (fun _ _ h => t_X7_cellOf _ _ _ _ _ h) cal_X7_cellOf dX7_replayed_49 wm_3_183 wm_3_100 rfl rfl (Nat.le_of_ble_eq_true rfl) ⟨(Nat.le_of_ble_eq_true rfl), (Nat.le_of_ble_eq_true rfl)⟩ ⟨(Nat.le_of_ble_eq_true rfl), (Nat.le_of_ble_eq_true rfl)⟩ (fun v14 M13 => ?_)
            refine r_iald hz dX7_replayed_52 ?_
            refine r_goto (tgt := 57) hz dX7_replayed_53 rfl ?_
            refine r_callVv (As := fun _ => [.ref q4, .ref q5, .int p1, .int p2, .int (gI M13 q12 (v14).toNatClampNeg)]) cl1 hz (fun _ _ h => t_X1_load _ _ _ _ _ _ _ _ _ h) cal_X1_load dX7_replayed_57 wm_4_6 wm_4_7 wm_4_8 rfl rfl (Nat.le_of_ble_eq_true rfl) ⟨(Nat.le_of_ble_eq_true rfl), (Nat.le_of_ble_eq_true rfl)⟩ ⟨(Nat.le_of_ble_eq_true rfl), (Nat.le_of_ble_eq_true rfl)⟩ (fun _ M15 => ?_)
            refine r_aload_n hz dX7_replayed_60 0 rfl ?_
            refine r_getR (j := 1) cl7 hz dX7_replayed_61 (by decide) wm_2_105 rfl (fun q16 => ?_)
            refine r_aload_n hz dX7_replayed_64 0 rfl ?_
            refine r_getR (j := 0) cl7 hz dX7_replayed_65 (by decide) wm_2_104 rfl (fun q17 => ?_)
            refine r_iload_n hz dX7_replayed_68 1 rfl ?_
            refine r_iload_n hz dX7_replayed_69 2 rfl ?_
            refine r_callVi (As := fun _ => [.ref q17, .int p1, .int p2]) cl5 hz (fun _ _ h => t_X5_countRetired _ _ _ _ _ _ _ h) cal_X5_countRetired dX7_replayed_70 wm_4_174 wm_4_175 wm_4_176 rfl rfl (Nat.le_of_ble_eq_true rfl) ⟨(Nat.le_of_ble_eq_true rfl), (Nat.le_of_ble_eq_true rfl)⟩ ⟨(Nat.le_of_ble_eq_true rfl), (Nat.le_of_ble_eq_true rfl)⟩ (fun v19 M18 => ?_)
            refine r_istore (lv' := [(4, .int v19), (0, .ref p0), (1, .int p1), (2, .int p2), (3, .int p3)]) hz dX7_replayed_73 (by decide) rfl ?_
            refine r_iconst (v := 0) hz dX7_replayed_75 rfl ?_
            refine r_istore (lv' := [(5, .int (0 : Int32)), (4, .int v19), (0, .ref p0), (1, .int p1), (2, .int p2), (3, .int p3)]) hz dX7_replayed_76 (by decide) rfl ?_
            refine r_sub [2, 3, 4, 1, 0] rfl ?_
            exact s_X7_replayed_78 hz hq FU p0 p1 p2 v19 (0 : Int32) M18
        · refine r_iconst (v := -1) hz dX7_replayed_20 rfl ?_
          exact r_iret hz hq dX7_replayed_21 (Nat.le_of_ble_eq_true rfl) (Nat.le_of_ble_eq_true rfl)
  exact key x M' h ⟨rfl, rfl⟩
theorem dX7_lastOne_0 : decode cX7_lastOne 0 = .ok (.aload_n 0, 1) := by decide +kernel
theorem dX7_lastOne_1 : decode cX7_lastOne 1 = .ok (.iload_n 1, 1) := by decide +kernel
theorem dX7_lastOne_2 : decode cX7_lastOne 2 = .ok (.invokevirtual 116, 3) := by decide +kernel
theorem dX7_lastOne_5 : decode cX7_lastOne 5 = .ok (.ifCond .eq 11, 3) := by decide +kernel
theorem dX7_lastOne_8 : decode cX7_lastOne 8 = .ok (.aload_n 0, 1) := by decide +kernel
theorem dX7_lastOne_9 : decode cX7_lastOne 9 = .ok (.iload_n 1, 1) := by decide +kernel
theorem dX7_lastOne_10 : decode cX7_lastOne 10 = .ok (.invokevirtual 250, 3) := by decide +kernel
theorem dX7_lastOne_13 : decode cX7_lastOne 13 = .ok (.ifCond .ne 5, 3) := by decide +kernel
theorem dX7_lastOne_16 : decode cX7_lastOne 16 = .ok (.iconst (-1), 1) := by decide +kernel
theorem dX7_lastOne_17 : decode cX7_lastOne 17 = .ok (.ireturn, 1) := by decide +kernel
theorem dX7_lastOne_18 : decode cX7_lastOne 18 = .ok (.aload_n 0, 1) := by decide +kernel
theorem dX7_lastOne_19 : decode cX7_lastOne 19 = .ok (.getfield 10, 3) := by decide +kernel
theorem dX7_lastOne_22 : decode cX7_lastOne 22 = .ok (.getfield 137, 3) := by decide +kernel
theorem dX7_lastOne_25 : decode cX7_lastOne 25 = .ok (.iload_n 1, 1) := by decide +kernel
theorem dX7_lastOne_26 : decode cX7_lastOne 26 = .ok (.iaload, 1) := by decide +kernel
theorem dX7_lastOne_27 : decode cX7_lastOne 27 = .ok (.istore_n 3, 1) := by decide +kernel
theorem dX7_lastOne_28 : decode cX7_lastOne 28 = .ok (.iload_n 2, 1) := by decide +kernel
theorem dX7_lastOne_29 : decode cX7_lastOne 29 = .ok (.iconst (-1), 1) := by decide +kernel
theorem dX7_lastOne_30 : decode cX7_lastOne 30 = .ok (.if_icmp .ne 17, 3) := by decide +kernel
theorem dX7_lastOne_33 : decode cX7_lastOne 33 = .ok (.aload_n 0, 1) := by decide +kernel
theorem dX7_lastOne_34 : decode cX7_lastOne 34 = .ok (.getfield 19, 3) := by decide +kernel
theorem dX7_lastOne_37 : decode cX7_lastOne 37 = .ok (.aload_n 0, 1) := by decide +kernel
theorem dX7_lastOne_38 : decode cX7_lastOne 38 = .ok (.getfield 10, 3) := by decide +kernel
theorem dX7_lastOne_41 : decode cX7_lastOne 41 = .ok (.iload_n 1, 1) := by decide +kernel
theorem dX7_lastOne_42 : decode cX7_lastOne 42 = .ok (.iload_n 3, 1) := by decide +kernel
theorem dX7_lastOne_43 : decode cX7_lastOne 43 = .ok (.invokevirtual 329, 3) := by decide +kernel
theorem dX7_lastOne_46 : decode cX7_lastOne 46 = .ok (.ireturn, 1) := by decide +kernel
theorem dX7_lastOne_47 : decode cX7_lastOne 47 = .ok (.iload_n 2, 1) := by decide +kernel
theorem dX7_lastOne_48 : decode cX7_lastOne 48 = .ok (.ifCond .ge 6, 3) := by decide +kernel
theorem dX7_lastOne_51 : decode cX7_lastOne 51 = .ok (.bipush (-2), 2) := by decide +kernel
theorem dX7_lastOne_53 : decode cX7_lastOne 53 = .ok (.ireturn, 1) := by decide +kernel
theorem dX7_lastOne_54 : decode cX7_lastOne 54 = .ok (.iconst 0, 1) := by decide +kernel
theorem dX7_lastOne_55 : decode cX7_lastOne 55 = .ok (.istore 4, 2) := by decide +kernel
theorem dX7_lastOne_57 : decode cX7_lastOne 57 = .ok (.iconst 1, 1) := by decide +kernel
theorem dX7_lastOne_58 : decode cX7_lastOne 58 = .ok (.istore 5, 2) := by decide +kernel
theorem dX7_lastOne_60 : decode cX7_lastOne 60 = .ok (.iload 5, 2) := by decide +kernel
theorem dX7_lastOne_62 : decode cX7_lastOne 62 = .ok (.aload_n 0, 1) := by decide +kernel
theorem dX7_lastOne_63 : decode cX7_lastOne 63 = .ok (.getfield 10, 3) := by decide +kernel
theorem dX7_lastOne_66 : decode cX7_lastOne 66 = .ok (.getfield 127, 3) := by decide +kernel
theorem dX7_lastOne_69 : decode cX7_lastOne 69 = .ok (.iload_n 1, 1) := by decide +kernel
theorem dX7_lastOne_70 : decode cX7_lastOne 70 = .ok (.iaload, 1) := by decide +kernel
theorem dX7_lastOne_71 : decode cX7_lastOne 71 = .ok (.if_icmp .gt 39, 3) := by decide +kernel
theorem dX7_lastOne_74 : decode cX7_lastOne 74 = .ok (.aload_n 0, 1) := by decide +kernel
theorem dX7_lastOne_75 : decode cX7_lastOne 75 = .ok (.getfield 19, 3) := by decide +kernel
theorem dX7_lastOne_78 : decode cX7_lastOne 78 = .ok (.getfield 180, 3) := by decide +kernel
theorem dX7_lastOne_81 : decode cX7_lastOne 81 = .ok (.iload_n 1, 1) := by decide +kernel
theorem dX7_lastOne_82 : decode cX7_lastOne 82 = .ok (.iload 5, 2) := by decide +kernel
theorem dX7_lastOne_84 : decode cX7_lastOne 84 = .ok (.invokestatic 170, 3) := by decide +kernel
theorem dX7_lastOne_87 : decode cX7_lastOne 87 = .ok (.iaload, 1) := by decide +kernel
theorem dX7_lastOne_88 : decode cX7_lastOne 88 = .ok (.iload_n 3, 1) := by decide +kernel
theorem dX7_lastOne_89 : decode cX7_lastOne 89 = .ok (.if_icmp .ne 15, 3) := by decide +kernel
theorem dX7_lastOne_92 : decode cX7_lastOne 92 = .ok (.iload 4, 2) := by decide +kernel
theorem dX7_lastOne_94 : decode cX7_lastOne 94 = .ok (.iload_n 2, 1) := by decide +kernel
theorem dX7_lastOne_95 : decode cX7_lastOne 95 = .ok (.if_icmp .ne 6, 3) := by decide +kernel
theorem dX7_lastOne_98 : decode cX7_lastOne 98 = .ok (.iload 5, 2) := by decide +kernel
theorem dX7_lastOne_100 : decode cX7_lastOne 100 = .ok (.ireturn, 1) := by decide +kernel
theorem dX7_lastOne_101 : decode cX7_lastOne 101 = .ok (.iinc 4 1, 3) := by decide +kernel
theorem dX7_lastOne_104 : decode cX7_lastOne 104 = .ok (.iinc 5 1, 3) := by decide +kernel
theorem dX7_lastOne_107 : decode cX7_lastOne 107 = .ok (.goto (-47), 3) := by decide +kernel
theorem dX7_lastOne_110 : decode cX7_lastOne 110 = .ok (.bipush (-2), 2) := by decide +kernel
theorem dX7_lastOne_112 : decode cX7_lastOne 112 = .ok (.ireturn, 1) := by decide +kernel
abbrev rX7_lastOne : Room := { frames := 2, cells := 0, slots := 0, locals := 46 }
theorem cal_X7_lastOne : CalOk yX7_lastOne cX7_lastOne 6 (some .int) 2 := ⟨wm_4_189, wm_1_1, by decide, by decide, by decide +kernel⟩
def f_X7_lastOne_60 : Nat → Nat → Int32 → Int32 → Int32 → Int32 → Int32 → Mm → Option (Int32 × Mm)
  | 0, _, _, _, _, _, _, _ => none
  | n + 1, x0, x1, x2, x3, x4, x5, M =>
    ck (gK M x0 = 7) (bR (gR M x0 0) fun q1 => ck (gK M q1 = 6) (bR (gR M q1 6) fun q2 => ck (gK M q2 = 10 ∧ inb x1 (gN M q2)) ((if (gI M q2 (x1).toNatClampNeg) < x5 then
      some ((-2 : Int32), M)
    else
      ck (gK M x0 = 7) (bR (gR M x0 1) fun q3 => ck (gK M q3 = 5) (bR (gR M q3 8) fun q4 => bd (f_X7_spotOf x1 x5 M) fun v6 M5 =>
      ck (gK M5 q4 = 10 ∧ inb v6 (gN M5 q4)) ((if ¬ (gI M5 q4 (v6).toNatClampNeg) = x3 then
        f_X7_lastOne_60 n x0 x1 x2 x3 x4 (x5 + (1 : Int32)) M5
      else
        (if ¬ x4 = x2 then
          f_X7_lastOne_60 n x0 x1 x2 x3 (x4 + (1 : Int32)) (x5 + (1 : Int32)) M5
        else
          some (x5, M5))))))))))
set_option maxRecDepth 20000 in
set_option maxHeartbeats 4000000 in
theorem s_X7_lastOne_60 {z : Zt} {K : Int32 → Mm → Prop} (hz : Good z RX7 cX7_lastOne 6 rX7_lastOne (some .int)) (hq : Ret z zI K) : ∀ (n : Nat) (x0 : Nat) (x1 : Int32) (x2 : Int32) (x3 : Int32) (x4 : Int32) (x5 : Int32) (M : Mm), Sim z 60 [(0, .ref x0), (1, .int x1), (2, .int x2), (3, .int x3), (4, .int x4), (5, .int x5)] [] M 0 0 (f_X7_lastOne_60 n x0 x1 x2 x3 x4 x5 M) K := by
  intro n
  induction n with
  | zero => exact fun _ _ _ _ _ _ _ => r_none
  | succ n ih =>
    intro x0 x1 x2 x3 x4 x5 M
    unfold f_X7_lastOne_60
    refine r_iload hz dX7_lastOne_60 5 rfl ?_
    refine r_aload_n hz dX7_lastOne_62 0 rfl ?_
    refine r_getR (j := 0) cl7 hz dX7_lastOne_63 (by decide) wm_2_104 rfl (fun q1 => ?_)
    refine r_getR (j := 6) cl6 hz dX7_lastOne_66 (by decide) wm_1_57 rfl (fun q2 => ?_)
    refine r_iload_n hz dX7_lastOne_69 1 rfl ?_
    refine r_iald hz dX7_lastOne_70 ?_
    refine r_icmp_gt (tgt := 110) hz dX7_lastOne_71 rfl ?_ ?_
    · refine r_bipush (v := -2) hz dX7_lastOne_110 rfl ?_
      exact r_iret hz hq dX7_lastOne_112 (Nat.le_of_ble_eq_true rfl) (Nat.le_of_ble_eq_true rfl)
    · refine r_aload_n hz dX7_lastOne_74 0 rfl ?_
      refine r_getR (j := 1) cl7 hz dX7_lastOne_75 (by decide) wm_2_105 rfl (fun q3 => ?_)
      refine r_getR (j := 8) cl5 hz dX7_lastOne_78 (by decide) wm_1_164 rfl (fun q4 => ?_)
      refine r_iload_n hz dX7_lastOne_81 1 rfl ?_
      refine r_iload hz dX7_lastOne_82 5 rfl ?_
      refine r_callSi (As := fun _ => [.int x1, .int x5]) hz (fun _ _ h => t_X7_spotOf _ _ _ _ _ h) cal_X7_spotOf dX7_lastOne_84 wm_3_165 wm_3_78 rfl rfl (Nat.le_of_ble_eq_true rfl) ⟨(Nat.le_of_ble_eq_true rfl), (Nat.le_of_ble_eq_true rfl)⟩ ⟨(Nat.le_of_ble_eq_true rfl), (Nat.le_of_ble_eq_true rfl)⟩ (fun v6 M5 => ?_)
      refine r_iald hz dX7_lastOne_87 ?_
      refine r_iload_n hz dX7_lastOne_88 3 rfl ?_
      refine r_icmp_ne (tgt := 104) hz dX7_lastOne_89 rfl ?_ ?_
      · refine r_iinc (v := (x5 + (1 : Int32))) (lv' := [(5, .int (x5 + (1 : Int32))), (0, .ref x0), (1, .int x1), (2, .int x2), (3, .int x3), (4, .int x4)]) hz dX7_lastOne_104 5 rfl rfl (by decide) rfl ?_
        refine r_goto (tgt := 60) hz dX7_lastOne_107 rfl ?_
        refine r_sub [1, 2, 3, 4, 5, 0] rfl ?_
        exact ih x0 x1 x2 x3 x4 (x5 + (1 : Int32)) M5
      · refine r_iload hz dX7_lastOne_92 4 rfl ?_
        refine r_iload_n hz dX7_lastOne_94 2 rfl ?_
        refine r_icmp_ne (tgt := 101) hz dX7_lastOne_95 rfl ?_ ?_
        · refine r_iinc (v := (x4 + (1 : Int32))) (lv' := [(4, .int (x4 + (1 : Int32))), (0, .ref x0), (1, .int x1), (2, .int x2), (3, .int x3), (5, .int x5)]) hz dX7_lastOne_101 4 rfl rfl (by decide) rfl ?_
          refine r_iinc (v := (x5 + (1 : Int32))) (lv' := [(5, .int (x5 + (1 : Int32))), (4, .int (x4 + (1 : Int32))), (0, .ref x0), (1, .int x1), (2, .int x2), (3, .int x3)]) hz dX7_lastOne_104 5 rfl rfl (by decide) rfl ?_
          refine r_goto (tgt := 60) hz dX7_lastOne_107 rfl ?_
          refine r_sub [2, 3, 4, 5, 1, 0] rfl ?_
          exact ih x0 x1 x2 x3 (x4 + (1 : Int32)) (x5 + (1 : Int32)) M5
        · refine r_iload hz dX7_lastOne_98 5 rfl ?_
          exact r_iret hz hq dX7_lastOne_100 (Nat.le_of_ble_eq_true rfl) (Nat.le_of_ble_eq_true rfl)
def f_X7_lastOne (p0 : Nat) (p1 : Int32) (p2 : Int32) (M : Mm) : Option (Int32 × Mm) :=
  ck (gK M p0 = 7) (bd (f_X7_isLoan p0 p1 M) fun v2 M1 =>
  (if v2 = 0 then
    some ((-1 : Int32), M1)
  else
    ck (gK M1 p0 = 7) (bd (f_X7_isOver p0 p1 M1) fun v4 M3 =>
    (if ¬ v4 = 0 then
      ck (gK M3 p0 = 7) (bR (gR M3 p0 0) fun q5 => ck (gK M3 q5 = 6) (bR (gR M3 q5 9) fun q6 => ck (gK M3 q6 = 10 ∧ inb p1 (gN M3 q6)) (nm (gI M3 q6 (p1).toNatClampNeg) fun v7 =>
      (if ¬ p2 = (-1 : Int32) then
        (if 0 ≤ p2 then
          f_X7_lastOne_60 FU p0 p1 p2 v7 (0 : Int32) (1 : Int32) M3
        else
          some ((-2 : Int32), M3))
      else
        ck (gK M3 p0 = 7) (bR (gR M3 p0 1) fun q8 => ck (gK M3 p0 = 7) (bR (gR M3 p0 0) fun q9 => ck (gK M3 q8 = 5) (bd (f_X5_countRetired q8 q9 p1 v7 M3) fun v11 M10 =>
        some (v11, M10))))))))
    else
      some ((-1 : Int32), M3)))))
set_option maxRecDepth 20000 in
set_option maxHeartbeats 4000000 in
theorem t_X7_lastOne (p0 : Nat) (p1 : Int32) (p2 : Int32) (M : Mm) (x : Int32) (M' : Mm) (h : f_X7_lastOne p0 p1 p2 M = some (x, M')) : Ctr yX7_lastOne cX7_lastOne 6 (some .int) rX7_lastOne (fun _ => [.ref p0, .int p1, .int p2]) M (zI x) M' := by
  refine ctr_of (plainFor_of_name (by decide)) (fun _ => Nat.le_of_ble_eq_true rfl) (fun z hz hin hq => ?_)
  have key : Sim z 0 [(0, .ref p0), (1, .int p1), (2, .int p2)] [] M 0 0 (f_X7_lastOne p0 p1 p2 M) (fun a b => a = x ∧ b = M') := by
    have hq : Ret z zI (fun a b => a = x ∧ b = M') := fun a b e => by rw [e.1, e.2]; exact hq
    unfold f_X7_lastOne
    refine r_aload_n hz dX7_lastOne_0 0 rfl ?_
    refine r_iload_n hz dX7_lastOne_1 1 rfl ?_
    refine r_callVi (As := fun _ => [.int p1]) cl7 hz (fun _ _ h => t_X7_isLoan _ _ _ _ _ h) cal_X7_isLoan dX7_lastOne_2 wm_3_149 wm_3_151 wm_p_25 rfl rfl (Nat.le_of_ble_eq_true rfl) ⟨(Nat.le_of_ble_eq_true rfl), (Nat.le_of_ble_eq_true rfl)⟩ ⟨(Nat.le_of_ble_eq_true rfl), (Nat.le_of_ble_eq_true rfl)⟩ (fun v2 M1 => ?_)
    refine r_if_eq (tgt := 16) hz dX7_lastOne_5 rfl ?_ ?_
    · refine r_iconst (v := -1) hz dX7_lastOne_16 rfl ?_
      exact r_iret hz hq dX7_lastOne_17 (Nat.le_of_ble_eq_true rfl) (Nat.le_of_ble_eq_true rfl)
    · refine r_aload_n hz dX7_lastOne_8 0 rfl ?_
      refine r_iload_n hz dX7_lastOne_9 1 rfl ?_
      refine r_callVi (As := fun _ => [.int p1]) cl7 hz (fun _ _ h => t_X7_isOver _ _ _ _ _ h) cal_X7_isOver dX7_lastOne_10 wm_4_41 wm_4_43 wm_p_36 rfl rfl (Nat.le_of_ble_eq_true rfl) ⟨(Nat.le_of_ble_eq_true rfl), (Nat.le_of_ble_eq_true rfl)⟩ ⟨(Nat.le_of_ble_eq_true rfl), (Nat.le_of_ble_eq_true rfl)⟩ (fun v4 M3 => ?_)
      refine r_if_ne (tgt := 18) hz dX7_lastOne_13 rfl ?_ ?_
      · refine r_aload_n hz dX7_lastOne_18 0 rfl ?_
        refine r_getR (j := 0) cl7 hz dX7_lastOne_19 (by decide) wm_2_104 rfl (fun q5 => ?_)
        refine r_getR (j := 9) cl6 hz dX7_lastOne_22 (by decide) wm_1_71 rfl (fun q6 => ?_)
        refine r_iload_n hz dX7_lastOne_25 1 rfl ?_
        refine r_iald hz dX7_lastOne_26 ?_
        refine r_nmi (fun v7 => ?_)
        refine r_istore_n (lv' := [(3, .int v7), (0, .ref p0), (1, .int p1), (2, .int p2)]) hz dX7_lastOne_27 (by decide) rfl ?_
        refine r_iload_n hz dX7_lastOne_28 3 rfl ?_
        refine r_iconst (v := -1) hz dX7_lastOne_29 rfl ?_
        refine r_icmp_ne (tgt := 47) hz dX7_lastOne_30 rfl ?_ ?_
        · refine r_iload_n hz dX7_lastOne_47 3 rfl ?_
          refine r_if_ge (tgt := 54) hz dX7_lastOne_48 rfl ?_ ?_
          · refine r_iconst (v := 0) hz dX7_lastOne_54 rfl ?_
            refine r_istore (lv' := [(4, .int (0 : Int32)), (3, .int v7), (0, .ref p0), (1, .int p1), (2, .int p2)]) hz dX7_lastOne_55 (by decide) rfl ?_
            refine r_iconst (v := 1) hz dX7_lastOne_57 rfl ?_
            refine r_istore (lv' := [(5, .int (1 : Int32)), (4, .int (0 : Int32)), (3, .int v7), (0, .ref p0), (1, .int p1), (2, .int p2)]) hz dX7_lastOne_58 (by decide) rfl ?_
            refine r_sub [3, 4, 5, 2, 1, 0] rfl ?_
            exact s_X7_lastOne_60 hz hq FU p0 p1 p2 v7 (0 : Int32) (1 : Int32) M3
          · refine r_bipush (v := -2) hz dX7_lastOne_51 rfl ?_
            exact r_iret hz hq dX7_lastOne_53 (Nat.le_of_ble_eq_true rfl) (Nat.le_of_ble_eq_true rfl)
        · refine r_aload_n hz dX7_lastOne_33 1 rfl ?_
          refine r_getR (j := 1) cl7 hz dX7_lastOne_34 (by decide) wm_2_105 rfl (fun q8 => ?_)
          refine r_aload_n hz dX7_lastOne_37 1 rfl ?_
          refine r_getR (j := 0) cl7 hz dX7_lastOne_38 (by decide) wm_2_104 rfl (fun q9 => ?_)
          refine r_iload_n hz dX7_lastOne_41 2 rfl ?_
          refine r_iload_n hz dX7_lastOne_42 0 rfl ?_
          refine r_callVi (As := fun _ => [.ref q9, .int p1, .int v7]) cl5 hz (fun _ _ h => t_X5_countRetired _ _ _ _ _ _ _ h) cal_X5_countRetired dX7_lastOne_43 wm_4_174 wm_4_175 wm_4_176 rfl rfl (Nat.le_of_ble_eq_true rfl) ⟨(Nat.le_of_ble_eq_true rfl), (Nat.le_of_ble_eq_true rfl)⟩ ⟨(Nat.le_of_ble_eq_true rfl), (Nat.le_of_ble_eq_true rfl)⟩ (fun v11 M10 => ?_)
          exact r_iret hz hq dX7_lastOne_46 (Nat.le_of_ble_eq_true rfl) (Nat.le_of_ble_eq_true rfl)
      · refine r_iconst (v := -1) hz dX7_lastOne_16 rfl ?_
        exact r_iret hz hq dX7_lastOne_17 (Nat.le_of_ble_eq_true rfl) (Nat.le_of_ble_eq_true rfl)
  exact key x M' h ⟨rfl, rfl⟩
theorem dX7_mean_0 : decode cX7_mean 0 = .ok (.aload_n 0, 1) := by decide +kernel
theorem dX7_mean_1 : decode cX7_mean 1 = .ok (.iload_n 1, 1) := by decide +kernel
theorem dX7_mean_2 : decode cX7_mean 2 = .ok (.invokevirtual 156, 3) := by decide +kernel
theorem dX7_mean_5 : decode cX7_mean 5 = .ok (.ifCond .ne 7, 3) := by decide +kernel
theorem dX7_mean_8 : decode cX7_mean 8 = .ok (.ldc2_w 267, 3) := by decide +kernel
theorem dX7_mean_11 : decode cX7_mean 11 = .ok (.lreturn, 1) := by decide +kernel
theorem dX7_mean_12 : decode cX7_mean 12 = .ok (.aload_n 0, 1) := by decide +kernel
theorem dX7_mean_13 : decode cX7_mean 13 = .ok (.getfield 73, 3) := by decide +kernel
theorem dX7_mean_16 : decode cX7_mean 16 = .ok (.aload_n 0, 1) := by decide +kernel
theorem dX7_mean_17 : decode cX7_mean 17 = .ok (.getfield 10, 3) := by decide +kernel
theorem dX7_mean_20 : decode cX7_mean 20 = .ok (.aload_n 0, 1) := by decide +kernel
theorem dX7_mean_21 : decode cX7_mean 21 = .ok (.getfield 19, 3) := by decide +kernel
theorem dX7_mean_24 : decode cX7_mean 24 = .ok (.invokevirtual 335, 3) := by decide +kernel
theorem dX7_mean_27 : decode cX7_mean 27 = .ok (.aload_n 0, 1) := by decide +kernel
theorem dX7_mean_28 : decode cX7_mean 28 = .ok (.getfield 73, 3) := by decide +kernel
theorem dX7_mean_31 : decode cX7_mean 31 = .ok (.getfield 339, 3) := by decide +kernel
theorem dX7_mean_34 : decode cX7_mean 34 = .ok (.iload_n 1, 1) := by decide +kernel
theorem dX7_mean_35 : decode cX7_mean 35 = .ok (.iaload, 1) := by decide +kernel
theorem dX7_mean_36 : decode cX7_mean 36 = .ok (.ifCond .ne 7, 3) := by decide +kernel
theorem dX7_mean_39 : decode cX7_mean 39 = .ok (.ldc2_w 292, 3) := by decide +kernel
theorem dX7_mean_42 : decode cX7_mean 42 = .ok (.lreturn, 1) := by decide +kernel
theorem dX7_mean_43 : decode cX7_mean 43 = .ok (.aload_n 0, 1) := by decide +kernel
theorem dX7_mean_44 : decode cX7_mean 44 = .ok (.aload_n 0, 1) := by decide +kernel
theorem dX7_mean_45 : decode cX7_mean 45 = .ok (.getfield 73, 3) := by decide +kernel
theorem dX7_mean_48 : decode cX7_mean 48 = .ok (.getfield 340, 3) := by decide +kernel
theorem dX7_mean_51 : decode cX7_mean 51 = .ok (.iload_n 1, 1) := by decide +kernel
theorem dX7_mean_52 : decode cX7_mean 52 = .ok (.iaload, 1) := by decide +kernel
theorem dX7_mean_53 : decode cX7_mean 53 = .ok (.i2l, 1) := by decide +kernel
theorem dX7_mean_54 : decode cX7_mean 54 = .ok (.aload_n 0, 1) := by decide +kernel
theorem dX7_mean_55 : decode cX7_mean 55 = .ok (.getfield 73, 3) := by decide +kernel
theorem dX7_mean_58 : decode cX7_mean 58 = .ok (.getfield 339, 3) := by decide +kernel
theorem dX7_mean_61 : decode cX7_mean 61 = .ok (.iload_n 1, 1) := by decide +kernel
theorem dX7_mean_62 : decode cX7_mean 62 = .ok (.iaload, 1) := by decide +kernel
theorem dX7_mean_63 : decode cX7_mean 63 = .ok (.i2l, 1) := by decide +kernel
theorem dX7_mean_64 : decode cX7_mean 64 = .ok (.invokevirtual 284, 3) := by decide +kernel
theorem dX7_mean_67 : decode cX7_mean 67 = .ok (.lreturn, 1) := by decide +kernel
abbrev rX7_mean : Room := { frames := 2, cells := 0, slots := 0, locals := 56 }
theorem cal_X7_mean : CalOk yX7_mean cX7_mean 2 (some .long) 1 := ⟨wm_4_193, wm_1_1, by decide, by decide, by decide +kernel⟩
def f_X7_mean (p0 : Nat) (p1 : Int32) (M : Mm) : Option (Int64 × Mm) :=
  ck (gK M p0 = 7) (bd (f_X7_isHolder p0 p1 M) fun v2 M1 =>
  (if ¬ v2 = 0 then
    ck (gK M1 p0 = 7) (bR (gR M1 p0 11) fun q3 => ck (gK M1 p0 = 7) (bR (gR M1 p0 0) fun q4 => ck (gK M1 p0 = 7) (bR (gR M1 p0 1) fun q5 => ck (gK M1 q3 = 2) (bd (f_X2_reckon q3 q4 q5 M1) fun _ M6 =>
    ck (gK M6 p0 = 7) (bR (gR M6 p0 11) fun q7 => ck (gK M6 q7 = 2) (bR (gR M6 q7 1) fun q8 => ck (gK M6 q8 = 10 ∧ inb p1 (gN M6 q8)) ((if ¬ (gI M6 q8 (p1).toNatClampNeg) = 0 then
      ck (gK M6 p0 = 7) (bR (gR M6 p0 11) fun q9 => ck (gK M6 q9 = 2) (bR (gR M6 q9 0) fun q10 => ck (gK M6 q10 = 10 ∧ inb p1 (gN M6 q10)) (ck (gK M6 p0 = 7) (bR (gR M6 p0 11) fun q11 => ck (gK M6 q11 = 2) (bR (gR M6 q11 1) fun q12 => ck (gK M6 q12 = 10 ∧ inb p1 (gN M6 q12)) (ck (gK M6 p0 = 7) (bd (f_X7_tell p0 ((gI M6 q10 (p1).toNatClampNeg)).toInt64 ((gI M6 q12 (p1).toNatClampNeg)).toInt64 M6) fun v14 M13 =>
      some (v14, M13))))))))
    else
      some ((-2 : Int64), M6)))))))))
  else
    some ((-1 : Int64), M1)))
set_option maxRecDepth 20000 in
set_option maxHeartbeats 4000000 in
theorem t_X7_mean (p0 : Nat) (p1 : Int32) (M : Mm) (x : Int64) (M' : Mm) (h : f_X7_mean p0 p1 M = some (x, M')) : Ctr yX7_mean cX7_mean 2 (some .long) rX7_mean (fun _ => [.ref p0, .int p1]) M (zL x) M' := by
  refine ctr_of (plainFor_of_name (by decide)) (fun _ => Nat.le_of_ble_eq_true rfl) (fun z hz hin hq => ?_)
  have key : Sim z 0 [(0, .ref p0), (1, .int p1)] [] M 0 0 (f_X7_mean p0 p1 M) (fun a b => a = x ∧ b = M') := by
    have hq : Ret z zL (fun a b => a = x ∧ b = M') := fun a b e => by rw [e.1, e.2]; exact hq
    unfold f_X7_mean
    refine r_aload_n hz dX7_mean_0 0 rfl ?_
    refine r_iload_n hz dX7_mean_1 1 rfl ?_
    refine r_callVi (As := fun _ => [.int p1]) cl7 hz (fun _ _ h => t_X7_isHolder _ _ _ _ _ h) cal_X7_isHolder dX7_mean_2 wm_3_141 wm_3_143 wm_p_24 rfl rfl (Nat.le_of_ble_eq_true rfl) ⟨(Nat.le_of_ble_eq_true rfl), (Nat.le_of_ble_eq_true rfl)⟩ ⟨(Nat.le_of_ble_eq_true rfl), (Nat.le_of_ble_eq_true rfl)⟩ (fun v2 M1 => ?_)
    refine r_if_ne (tgt := 12) hz dX7_mean_5 rfl ?_ ?_
    · refine r_aload_n hz dX7_mean_12 0 rfl ?_
      refine r_getR (j := 11) cl7 hz dX7_mean_13 (by decide) wm_2_115 rfl (fun q3 => ?_)
      refine r_aload_n hz dX7_mean_16 0 rfl ?_
      refine r_getR (j := 0) cl7 hz dX7_mean_17 (by decide) wm_2_104 rfl (fun q4 => ?_)
      refine r_aload_n hz dX7_mean_20 0 rfl ?_
      refine r_getR (j := 1) cl7 hz dX7_mean_21 (by decide) wm_2_105 rfl (fun q5 => ?_)
      refine r_callVv (As := fun _ => [.ref q4, .ref q5]) cl2 hz (fun _ _ h => t_X2_reckon _ _ _ _ _ _ h) cal_X2_reckon dX7_mean_24 wm_4_194 wm_4_195 wm_4_196 rfl rfl (Nat.le_of_ble_eq_true rfl) ⟨(Nat.le_of_ble_eq_true rfl), (Nat.le_of_ble_eq_true rfl)⟩ ⟨(Nat.le_of_ble_eq_true rfl), (Nat.le_of_ble_eq_true rfl)⟩ (fun _ M6 => ?_)
      refine r_aload_n hz dX7_mean_27 0 rfl ?_
      refine r_getR (j := 11) cl7 hz dX7_mean_28 (by decide) wm_2_115 rfl (fun q7 => ?_)
      refine r_getR (j := 1) cl2 hz dX7_mean_31 (by decide) wm_2_98 rfl (fun q8 => ?_)
      refine r_iload_n hz dX7_mean_34 1 rfl ?_
      refine r_iald hz dX7_mean_35 ?_
      refine r_if_ne (tgt := 43) hz dX7_mean_36 rfl ?_ ?_
      · refine r_aload_n hz dX7_mean_43 0 rfl ?_
        refine r_aload_n hz dX7_mean_44 0 rfl ?_
        refine r_getR (j := 11) cl7 hz dX7_mean_45 (by decide) wm_2_115 rfl (fun q9 => ?_)
        refine r_getR (j := 0) cl2 hz dX7_mean_48 (by decide) wm_2_96 rfl (fun q10 => ?_)
        refine r_iload_n hz dX7_mean_51 1 rfl ?_
        refine r_iald hz dX7_mean_52 ?_
        refine r_i2l hz dX7_mean_53 ?_
        refine r_aload_n hz dX7_mean_54 0 rfl ?_
        refine r_getR (j := 11) cl7 hz dX7_mean_55 (by decide) wm_2_115 rfl (fun q11 => ?_)
        refine r_getR (j := 1) cl2 hz dX7_mean_58 (by decide) wm_2_98 rfl (fun q12 => ?_)
        refine r_iload_n hz dX7_mean_61 1 rfl ?_
        refine r_iald hz dX7_mean_62 ?_
        refine r_i2l hz dX7_mean_63 ?_
        refine r_callVl (As := fun _ => [.long ((gI M6 q10 (p1).toNatClampNeg)).toInt64, .long ((gI M6 q12 (p1).toNatClampNeg)).toInt64]) cl7 hz (fun _ _ h => t_X7_tell _ _ _ _ _ _ h) cal_X7_tell dX7_mean_64 wm_4_87 wm_4_89 wm_p_39 rfl rfl (Nat.le_of_ble_eq_true rfl) ⟨(Nat.le_of_ble_eq_true rfl), (Nat.le_of_ble_eq_true rfl)⟩ ⟨(Nat.le_of_ble_eq_true rfl), (Nat.le_of_ble_eq_true rfl)⟩ (fun v14 M13 => ?_)
        exact r_lret hz hq dX7_mean_67 (Nat.le_of_ble_eq_true rfl) (Nat.le_of_ble_eq_true rfl)
      · refine r_ldc2 (v := -2) hz dX7_mean_39 wm_4_113 ?_
        exact r_lret hz hq dX7_mean_42 (Nat.le_of_ble_eq_true rfl) (Nat.le_of_ble_eq_true rfl)
    · refine r_ldc2 (v := -1) hz dX7_mean_8 wm_4_74 ?_
      exact r_lret hz hq dX7_mean_11 (Nat.le_of_ble_eq_true rfl) (Nat.le_of_ble_eq_true rfl)
  exact key x M' h ⟨rfl, rfl⟩
theorem dX7_unlucky_0 : decode cX7_unlucky 0 = .ok (.iload_n 1, 1) := by decide +kernel
theorem dX7_unlucky_1 : decode cX7_unlucky 1 = .ok (.iconst (-1), 1) := by decide +kernel
theorem dX7_unlucky_2 : decode cX7_unlucky 2 = .ok (.if_icmp .ge 6, 3) := by decide +kernel
theorem dX7_unlucky_5 : decode cX7_unlucky 5 = .ok (.bipush (-2), 2) := by decide +kernel
theorem dX7_unlucky_7 : decode cX7_unlucky 7 = .ok (.ireturn, 1) := by decide +kernel
theorem dX7_unlucky_8 : decode cX7_unlucky 8 = .ok (.aload_n 0, 1) := by decide +kernel
theorem dX7_unlucky_9 : decode cX7_unlucky 9 = .ok (.getfield 73, 3) := by decide +kernel
theorem dX7_unlucky_12 : decode cX7_unlucky 12 = .ok (.aload_n 0, 1) := by decide +kernel
theorem dX7_unlucky_13 : decode cX7_unlucky 13 = .ok (.getfield 10, 3) := by decide +kernel
theorem dX7_unlucky_16 : decode cX7_unlucky 16 = .ok (.aload_n 0, 1) := by decide +kernel
theorem dX7_unlucky_17 : decode cX7_unlucky 17 = .ok (.getfield 19, 3) := by decide +kernel
theorem dX7_unlucky_20 : decode cX7_unlucky 20 = .ok (.invokevirtual 335, 3) := by decide +kernel
theorem dX7_unlucky_23 : decode cX7_unlucky 23 = .ok (.iconst 0, 1) := by decide +kernel
theorem dX7_unlucky_24 : decode cX7_unlucky 24 = .ok (.istore_n 2, 1) := by decide +kernel
theorem dX7_unlucky_25 : decode cX7_unlucky 25 = .ok (.iconst 0, 1) := by decide +kernel
theorem dX7_unlucky_26 : decode cX7_unlucky 26 = .ok (.istore_n 3, 1) := by decide +kernel
theorem dX7_unlucky_27 : decode cX7_unlucky 27 = .ok (.iload_n 3, 1) := by decide +kernel
theorem dX7_unlucky_28 : decode cX7_unlucky 28 = .ok (.aload_n 0, 1) := by decide +kernel
theorem dX7_unlucky_29 : decode cX7_unlucky 29 = .ok (.getfield 10, 3) := by decide +kernel
theorem dX7_unlucky_32 : decode cX7_unlucky 32 = .ok (.getfield 99, 3) := by decide +kernel
theorem dX7_unlucky_35 : decode cX7_unlucky 35 = .ok (.if_icmp .ge 45, 3) := by decide +kernel
theorem dX7_unlucky_38 : decode cX7_unlucky 38 = .ok (.aload_n 0, 1) := by decide +kernel
theorem dX7_unlucky_39 : decode cX7_unlucky 39 = .ok (.getfield 73, 3) := by decide +kernel
theorem dX7_unlucky_42 : decode cX7_unlucky 42 = .ok (.getfield 339, 3) := by decide +kernel
theorem dX7_unlucky_45 : decode cX7_unlucky 45 = .ok (.iload_n 3, 1) := by decide +kernel
theorem dX7_unlucky_46 : decode cX7_unlucky 46 = .ok (.iaload, 1) := by decide +kernel
theorem dX7_unlucky_47 : decode cX7_unlucky 47 = .ok (.ifCond .le 27, 3) := by decide +kernel
theorem dX7_unlucky_50 : decode cX7_unlucky 50 = .ok (.aload_n 0, 1) := by decide +kernel
theorem dX7_unlucky_51 : decode cX7_unlucky 51 = .ok (.getfield 73, 3) := by decide +kernel
theorem dX7_unlucky_54 : decode cX7_unlucky 54 = .ok (.iload_n 3, 1) := by decide +kernel
theorem dX7_unlucky_55 : decode cX7_unlucky 55 = .ok (.aload_n 0, 1) := by decide +kernel
theorem dX7_unlucky_56 : decode cX7_unlucky 56 = .ok (.getfield 10, 3) := by decide +kernel
theorem dX7_unlucky_59 : decode cX7_unlucky 59 = .ok (.getfield 99, 3) := by decide +kernel
theorem dX7_unlucky_62 : decode cX7_unlucky 62 = .ok (.invokevirtual 341, 3) := by decide +kernel
theorem dX7_unlucky_65 : decode cX7_unlucky 65 = .ok (.iload_n 1, 1) := by decide +kernel
theorem dX7_unlucky_66 : decode cX7_unlucky 66 = .ok (.if_icmp .ne 5, 3) := by decide +kernel
theorem dX7_unlucky_69 : decode cX7_unlucky 69 = .ok (.iload_n 3, 1) := by decide +kernel
theorem dX7_unlucky_70 : decode cX7_unlucky 70 = .ok (.ireturn, 1) := by decide +kernel
theorem dX7_unlucky_71 : decode cX7_unlucky 71 = .ok (.iinc 2 1, 3) := by decide +kernel
theorem dX7_unlucky_74 : decode cX7_unlucky 74 = .ok (.iinc 3 1, 3) := by decide +kernel
theorem dX7_unlucky_77 : decode cX7_unlucky 77 = .ok (.goto (-50), 3) := by decide +kernel
theorem dX7_unlucky_80 : decode cX7_unlucky 80 = .ok (.iload_n 1, 1) := by decide +kernel
theorem dX7_unlucky_81 : decode cX7_unlucky 81 = .ok (.iconst (-1), 1) := by decide +kernel
theorem dX7_unlucky_82 : decode cX7_unlucky 82 = .ok (.if_icmp .ne 7, 3) := by decide +kernel
theorem dX7_unlucky_85 : decode cX7_unlucky 85 = .ok (.iload_n 2, 1) := by decide +kernel
theorem dX7_unlucky_86 : decode cX7_unlucky 86 = .ok (.goto 5, 3) := by decide +kernel
theorem dX7_unlucky_89 : decode cX7_unlucky 89 = .ok (.bipush (-2), 2) := by decide +kernel
theorem dX7_unlucky_91 : decode cX7_unlucky 91 = .ok (.ireturn, 1) := by decide +kernel
abbrev rX7_unlucky : Room := { frames := 2, cells := 0, slots := 0, locals := 49 }
theorem cal_X7_unlucky : CalOk yX7_unlucky cX7_unlucky 4 (some .int) 1 := ⟨wm_4_203, wm_1_1, by decide, by decide, by decide +kernel⟩
def f_X7_unlucky_27 : Nat → Nat → Int32 → Int32 → Int32 → Mm → Option (Int32 × Mm)
  | 0, _, _, _, _, _ => none
  | n + 1, x0, x1, x2, x3, M =>
    ck (gK M x0 = 7) (bR (gR M x0 0) fun q1 => ck (gK M q1 = 6) ((if (gI M q1 1) ≤ x3 then
      (if ¬ x1 = (-1 : Int32) then
        some ((-2 : Int32), M)
      else
        some (x2, M))
    else
      ck (gK M x0 = 7) (bR (gR M x0 11) fun q2 => ck (gK M q2 = 2) (bR (gR M q2 1) fun q3 => ck (gK M q3 = 10 ∧ inb x3 (gN M q3)) ((if (gI M q3 (x3).toNatClampNeg) ≤ 0 then
        f_X7_unlucky_27 n x0 x1 x2 (x3 + (1 : Int32)) M
      else
        ck (gK M x0 = 7) (bR (gR M x0 11) fun q5 => ck (gK M x0 = 7) (bR (gR M x0 0) fun q6 => ck (gK M q6 = 6) (ck (gK M q5 = 2) (bd (f_X2_placeOf q5 x3 (gI M q6 1) M) fun v8 M7 =>
        (if ¬ v8 = x1 then
          f_X7_unlucky_27 n x0 x1 (x2 + (1 : Int32)) (x3 + (1 : Int32)) M7
        else
          some (x3, M7)))))))))))))
set_option maxRecDepth 20000 in
set_option maxHeartbeats 4000000 in
theorem s_X7_unlucky_27 {z : Zt} {K : Int32 → Mm → Prop} (hz : Good z RX7 cX7_unlucky 4 rX7_unlucky (some .int)) (hq : Ret z zI K) : ∀ (n : Nat) (x0 : Nat) (x1 : Int32) (x2 : Int32) (x3 : Int32) (M : Mm), Sim z 27 [(0, .ref x0), (1, .int x1), (2, .int x2), (3, .int x3)] [] M 0 0 (f_X7_unlucky_27 n x0 x1 x2 x3 M) K := by
  intro n
  induction n with
  | zero => exact fun _ _ _ _ _ => r_none
  | succ n ih =>
    intro x0 x1 x2 x3 M
    unfold f_X7_unlucky_27
    refine r_iload_n hz dX7_unlucky_27 3 rfl ?_
    refine r_aload_n hz dX7_unlucky_28 0 rfl ?_
    refine r_getR (j := 0) cl7 hz dX7_unlucky_29 (by decide) wm_2_104 rfl (fun q1 => ?_)
    refine r_getI (j := 1) cl6 hz dX7_unlucky_32 (by decide) wm_1_41 rfl ?_
    refine r_icmp_ge (tgt := 80) hz dX7_unlucky_35 rfl ?_ ?_
    · refine r_iload_n hz dX7_unlucky_80 1 rfl ?_
      refine r_iconst (v := -1) hz dX7_unlucky_81 rfl ?_
      refine r_icmp_ne (tgt := 89) hz dX7_unlucky_82 rfl ?_ ?_
      · refine r_bipush (v := -2) hz dX7_unlucky_89 rfl ?_
        exact r_iret hz hq dX7_unlucky_91 (Nat.le_of_ble_eq_true rfl) (Nat.le_of_ble_eq_true rfl)
      · refine r_iload_n hz dX7_unlucky_85 2 rfl ?_
        refine r_goto (tgt := 91) hz dX7_unlucky_86 rfl ?_
        exact r_iret hz hq dX7_unlucky_91 (Nat.le_of_ble_eq_true rfl) (Nat.le_of_ble_eq_true rfl)
    · refine r_aload_n hz dX7_unlucky_38 0 rfl ?_
      refine r_getR (j := 11) cl7 hz dX7_unlucky_39 (by decide) wm_2_115 rfl (fun q2 => ?_)
      refine r_getR (j := 1) cl2 hz dX7_unlucky_42 (by decide) wm_2_98 rfl (fun q3 => ?_)
      refine r_iload_n hz dX7_unlucky_45 3 rfl ?_
      refine r_iald hz dX7_unlucky_46 ?_
      refine r_if_le (tgt := 74) hz dX7_unlucky_47 rfl ?_ ?_
      · refine r_iinc (v := (x3 + (1 : Int32))) (lv' := [(3, .int (x3 + (1 : Int32))), (0, .ref x0), (1, .int x1), (2, .int x2)]) hz dX7_unlucky_74 3 rfl rfl (by decide) rfl ?_
        refine r_goto (tgt := 27) hz dX7_unlucky_77 rfl ?_
        refine r_sub [1, 2, 3, 0] rfl ?_
        exact ih x0 x1 x2 (x3 + (1 : Int32)) M
      · refine r_aload_n hz dX7_unlucky_50 0 rfl ?_
        refine r_getR (j := 11) cl7 hz dX7_unlucky_51 (by decide) wm_2_115 rfl (fun q5 => ?_)
        refine r_iload_n hz dX7_unlucky_54 3 rfl ?_
        refine r_aload_n hz dX7_unlucky_55 0 rfl ?_
        refine r_getR (j := 0) cl7 hz dX7_unlucky_56 (by decide) wm_2_104 rfl (fun q6 => ?_)
        refine r_getI (j := 1) cl6 hz dX7_unlucky_59 (by decide) wm_1_41 rfl ?_
        refine r_callVi (As := fun _ => [.int x3, .int (gI M q6 1)]) cl2 hz (fun _ _ h => t_X2_placeOf _ _ _ _ _ _ h) cal_X2_placeOf dX7_unlucky_62 wm_4_204 wm_4_205 wm_4_206 rfl rfl (Nat.le_of_ble_eq_true rfl) ⟨(Nat.le_of_ble_eq_true rfl), (Nat.le_of_ble_eq_true rfl)⟩ ⟨(Nat.le_of_ble_eq_true rfl), (Nat.le_of_ble_eq_true rfl)⟩ (fun v8 M7 => ?_)
        refine r_iload_n hz dX7_unlucky_65 1 rfl ?_
        refine r_icmp_ne (tgt := 71) hz dX7_unlucky_66 rfl ?_ ?_
        · refine r_iinc (v := (x2 + (1 : Int32))) (lv' := [(2, .int (x2 + (1 : Int32))), (0, .ref x0), (1, .int x1), (3, .int x3)]) hz dX7_unlucky_71 2 rfl rfl (by decide) rfl ?_
          refine r_iinc (v := (x3 + (1 : Int32))) (lv' := [(3, .int (x3 + (1 : Int32))), (2, .int (x2 + (1 : Int32))), (0, .ref x0), (1, .int x1)]) hz dX7_unlucky_74 3 rfl rfl (by decide) rfl ?_
          refine r_goto (tgt := 27) hz dX7_unlucky_77 rfl ?_
          refine r_sub [2, 3, 1, 0] rfl ?_
          exact ih x0 x1 (x2 + (1 : Int32)) (x3 + (1 : Int32)) M7
        · refine r_iload_n hz dX7_unlucky_69 3 rfl ?_
          exact r_iret hz hq dX7_unlucky_70 (Nat.le_of_ble_eq_true rfl) (Nat.le_of_ble_eq_true rfl)
def f_X7_unlucky (p0 : Nat) (p1 : Int32) (M : Mm) : Option (Int32 × Mm) :=
  (if (-1 : Int32) ≤ p1 then
    ck (gK M p0 = 7) (bR (gR M p0 11) fun q1 => ck (gK M p0 = 7) (bR (gR M p0 0) fun q2 => ck (gK M p0 = 7) (bR (gR M p0 1) fun q3 => ck (gK M q1 = 2) (bd (f_X2_reckon q1 q2 q3 M) fun _ M4 =>
    f_X7_unlucky_27 FU p0 p1 (0 : Int32) (0 : Int32) M4))))
  else
    some ((-2 : Int32), M))
set_option maxRecDepth 20000 in
set_option maxHeartbeats 4000000 in
theorem t_X7_unlucky (p0 : Nat) (p1 : Int32) (M : Mm) (x : Int32) (M' : Mm) (h : f_X7_unlucky p0 p1 M = some (x, M')) : Ctr yX7_unlucky cX7_unlucky 4 (some .int) rX7_unlucky (fun _ => [.ref p0, .int p1]) M (zI x) M' := by
  refine ctr_of (plainFor_of_name (by decide)) (fun _ => Nat.le_of_ble_eq_true rfl) (fun z hz hin hq => ?_)
  have key : Sim z 0 [(0, .ref p0), (1, .int p1)] [] M 0 0 (f_X7_unlucky p0 p1 M) (fun a b => a = x ∧ b = M') := by
    have hq : Ret z zI (fun a b => a = x ∧ b = M') := fun a b e => by rw [e.1, e.2]; exact hq
    unfold f_X7_unlucky
    refine r_iload_n hz dX7_unlucky_0 1 rfl ?_
    refine r_iconst (v := -1) hz dX7_unlucky_1 rfl ?_
    refine r_icmp_ge (tgt := 8) hz dX7_unlucky_2 rfl ?_ ?_
    · refine r_aload_n hz dX7_unlucky_8 0 rfl ?_
      refine r_getR (j := 11) cl7 hz dX7_unlucky_9 (by decide) wm_2_115 rfl (fun q1 => ?_)
      refine r_aload_n hz dX7_unlucky_12 0 rfl ?_
      refine r_getR (j := 0) cl7 hz dX7_unlucky_13 (by decide) wm_2_104 rfl (fun q2 => ?_)
      refine r_aload_n hz dX7_unlucky_16 0 rfl ?_
      refine r_getR (j := 1) cl7 hz dX7_unlucky_17 (by decide) wm_2_105 rfl (fun q3 => ?_)
      refine r_callVv (As := fun _ => [.ref q2, .ref q3]) cl2 hz (fun _ _ h => t_X2_reckon _ _ _ _ _ _ h) cal_X2_reckon dX7_unlucky_20 wm_4_194 wm_4_195 wm_4_196 rfl rfl (Nat.le_of_ble_eq_true rfl) ⟨(Nat.le_of_ble_eq_true rfl), (Nat.le_of_ble_eq_true rfl)⟩ ⟨(Nat.le_of_ble_eq_true rfl), (Nat.le_of_ble_eq_true rfl)⟩ (fun _ M4 => ?_)
      refine r_iconst (v := 0) hz dX7_unlucky_23 rfl ?_
      refine r_istore_n (lv' := [(2, .int (0 : Int32)), (0, .ref p0), (1, .int p1)]) hz dX7_unlucky_24 (by decide) rfl ?_
      refine r_iconst (v := 0) hz dX7_unlucky_25 rfl ?_
      refine r_istore_n (lv' := [(3, .int (0 : Int32)), (2, .int (0 : Int32)), (0, .ref p0), (1, .int p1)]) hz dX7_unlucky_26 (by decide) rfl ?_
      refine r_sub [2, 3, 1, 0] rfl ?_
      exact s_X7_unlucky_27 hz hq FU p0 p1 (0 : Int32) (0 : Int32) M4
    · refine r_bipush (v := -2) hz dX7_unlucky_5 rfl ?_
      exact r_iret hz hq dX7_unlucky_7 (Nat.le_of_ble_eq_true rfl) (Nat.le_of_ble_eq_true rfl)
  exact key x M' h ⟨rfl, rfl⟩
theorem dX7_paid_0 : decode cX7_paid 0 = .ok (.aload_n 0, 1) := by decide +kernel
theorem dX7_paid_1 : decode cX7_paid 1 = .ok (.iload_n 1, 1) := by decide +kernel
theorem dX7_paid_2 : decode cX7_paid 2 = .ok (.invokevirtual 116, 3) := by decide +kernel
theorem dX7_paid_5 : decode cX7_paid 5 = .ok (.ifCond .eq 12, 3) := by decide +kernel
theorem dX7_paid_8 : decode cX7_paid 8 = .ok (.iload_n 2, 1) := by decide +kernel
theorem dX7_paid_9 : decode cX7_paid 9 = .ok (.ifCond .lt 8, 3) := by decide +kernel
theorem dX7_paid_12 : decode cX7_paid 12 = .ok (.iload_n 2, 1) := by decide +kernel
theorem dX7_paid_13 : decode cX7_paid 13 = .ok (.iconst 5, 1) := by decide +kernel
theorem dX7_paid_14 : decode cX7_paid 14 = .ok (.if_icmp .le 7, 3) := by decide +kernel
theorem dX7_paid_17 : decode cX7_paid 17 = .ok (.ldc2_w 267, 3) := by decide +kernel
theorem dX7_paid_20 : decode cX7_paid 20 = .ok (.lreturn, 1) := by decide +kernel
theorem dX7_paid_21 : decode cX7_paid 21 = .ok (.lconst 0, 1) := by decide +kernel
theorem dX7_paid_22 : decode cX7_paid 22 = .ok (.lstore_n 3, 1) := by decide +kernel
theorem dX7_paid_23 : decode cX7_paid 23 = .ok (.iconst 1, 1) := by decide +kernel
theorem dX7_paid_24 : decode cX7_paid 24 = .ok (.istore 5, 2) := by decide +kernel
theorem dX7_paid_26 : decode cX7_paid 26 = .ok (.iload 5, 2) := by decide +kernel
theorem dX7_paid_28 : decode cX7_paid 28 = .ok (.aload_n 0, 1) := by decide +kernel
theorem dX7_paid_29 : decode cX7_paid 29 = .ok (.getfield 10, 3) := by decide +kernel
theorem dX7_paid_32 : decode cX7_paid 32 = .ok (.getfield 127, 3) := by decide +kernel
theorem dX7_paid_35 : decode cX7_paid 35 = .ok (.iload_n 1, 1) := by decide +kernel
theorem dX7_paid_36 : decode cX7_paid 36 = .ok (.iaload, 1) := by decide +kernel
theorem dX7_paid_37 : decode cX7_paid 37 = .ok (.if_icmp .gt 25, 3) := by decide +kernel
theorem dX7_paid_40 : decode cX7_paid 40 = .ok (.lload_n 3, 1) := by decide +kernel
theorem dX7_paid_41 : decode cX7_paid 41 = .ok (.aload_n 0, 1) := by decide +kernel
theorem dX7_paid_42 : decode cX7_paid 42 = .ok (.iload_n 1, 1) := by decide +kernel
theorem dX7_paid_43 : decode cX7_paid 43 = .ok (.iload_n 1, 1) := by decide +kernel
theorem dX7_paid_44 : decode cX7_paid 44 = .ok (.iload 5, 2) := by decide +kernel
theorem dX7_paid_46 : decode cX7_paid 46 = .ok (.invokestatic 170, 3) := by decide +kernel
theorem dX7_paid_49 : decode cX7_paid 49 = .ok (.iload_n 2, 1) := by decide +kernel
theorem dX7_paid_50 : decode cX7_paid 50 = .ok (.invokevirtual 189, 3) := by decide +kernel
theorem dX7_paid_53 : decode cX7_paid 53 = .ok (.i2l, 1) := by decide +kernel
theorem dX7_paid_54 : decode cX7_paid 54 = .ok (.ladd, 1) := by decide +kernel
theorem dX7_paid_55 : decode cX7_paid 55 = .ok (.lstore_n 3, 1) := by decide +kernel
theorem dX7_paid_56 : decode cX7_paid 56 = .ok (.iinc 5 1, 3) := by decide +kernel
theorem dX7_paid_59 : decode cX7_paid 59 = .ok (.goto (-33), 3) := by decide +kernel
theorem dX7_paid_62 : decode cX7_paid 62 = .ok (.lload_n 3, 1) := by decide +kernel
theorem dX7_paid_63 : decode cX7_paid 63 = .ok (.lreturn, 1) := by decide +kernel
abbrev rX7_paid : Room := { frames := 4, cells := 0, slots := 0, locals := 89 }
theorem cal_X7_paid : CalOk yX7_paid cX7_paid 6 (some .long) 2 := ⟨wm_4_215, wm_1_1, by decide, by decide, by decide +kernel⟩
def f_X7_paid_26 : Nat → Nat → Int32 → Int32 → Int64 → Int32 → Mm → Option (Int64 × Mm)
  | 0, _, _, _, _, _, _ => none
  | n + 1, x0, x1, x2, x3, x5, M =>
    ck (gK M x0 = 7) (bR (gR M x0 0) fun q1 => ck (gK M q1 = 6) (bR (gR M q1 6) fun q2 => ck (gK M q2 = 10 ∧ inb x1 (gN M q2)) ((if (gI M q2 (x1).toNatClampNeg) < x5 then
      some (x3, M)
    else
      bd (f_X7_spotOf x1 x5 M) fun v4 M3 =>
      ck (gK M3 x0 = 7) (bd (f_X7_sharePaid x0 x1 v4 x2 M3) fun v6 M5 =>
      nm (x3 + (v6).toInt64) fun v7 =>
      f_X7_paid_26 n x0 x1 x2 v7 (x5 + (1 : Int32)) M5)))))
set_option maxRecDepth 20000 in
set_option maxHeartbeats 4000000 in
theorem s_X7_paid_26 {z : Zt} {K : Int64 → Mm → Prop} (hz : Good z RX7 cX7_paid 6 rX7_paid (some .long)) (hq : Ret z zL K) : ∀ (n : Nat) (x0 : Nat) (x1 : Int32) (x2 : Int32) (x3 : Int64) (x5 : Int32) (M : Mm), Sim z 26 [(0, .ref x0), (1, .int x1), (2, .int x2), (3, .long x3), (5, .int x5)] [] M 0 0 (f_X7_paid_26 n x0 x1 x2 x3 x5 M) K := by
  intro n
  induction n with
  | zero => exact fun _ _ _ _ _ _ => r_none
  | succ n ih =>
    intro x0 x1 x2 x3 x5 M
    unfold f_X7_paid_26
    refine r_iload hz dX7_paid_26 4 rfl ?_
    refine r_aload_n hz dX7_paid_28 0 rfl ?_
    refine r_getR (j := 0) cl7 hz dX7_paid_29 (by decide) wm_2_104 rfl (fun q1 => ?_)
    refine r_getR (j := 6) cl6 hz dX7_paid_32 (by decide) wm_1_57 rfl (fun q2 => ?_)
    refine r_iload_n hz dX7_paid_35 1 rfl ?_
    refine r_iald hz dX7_paid_36 ?_
    refine r_icmp_gt (tgt := 62) hz dX7_paid_37 rfl ?_ ?_
    · refine r_lload_n hz dX7_paid_62 3 rfl ?_
      exact r_lret hz hq dX7_paid_63 (Nat.le_of_ble_eq_true rfl) (Nat.le_of_ble_eq_true rfl)
    · refine r_lload_n hz dX7_paid_40 3 rfl ?_
      refine r_aload_n hz dX7_paid_41 0 rfl ?_
      refine r_iload_n hz dX7_paid_42 1 rfl ?_
      refine r_iload_n hz dX7_paid_43 1 rfl ?_
      refine r_iload hz dX7_paid_44 4 rfl ?_
      refine r_callSi (As := fun _ => [.int x1, .int x5]) hz (fun _ _ h => t_X7_spotOf _ _ _ _ _ h) cal_X7_spotOf dX7_paid_46 wm_3_165 wm_3_78 rfl rfl (Nat.le_of_ble_eq_true rfl) ⟨(Nat.le_of_ble_eq_true rfl), (Nat.le_of_ble_eq_true rfl)⟩ ⟨(Nat.le_of_ble_eq_true rfl), (Nat.le_of_ble_eq_true rfl)⟩ (fun v4 M3 => ?_)
      refine r_iload_n hz dX7_paid_49 2 rfl ?_
      refine r_callVi (As := fun _ => [.int x1, .int v4, .int x2]) cl7 hz (fun _ _ h => t_X7_sharePaid _ _ _ _ _ _ _ h) cal_X7_sharePaid dX7_paid_50 wm_3_170 wm_3_172 wm_p_28 rfl rfl (Nat.le_of_ble_eq_true rfl) ⟨(Nat.le_of_ble_eq_true rfl), (Nat.le_of_ble_eq_true rfl)⟩ ⟨(Nat.le_of_ble_eq_true rfl), (Nat.le_of_ble_eq_true rfl)⟩ (fun v6 M5 => ?_)
      refine r_i2l hz dX7_paid_53 ?_
      refine r_ladd hz dX7_paid_54 ?_
      refine r_nml (fun v7 => ?_)
      refine r_lstore_n (lv' := [(3, .long v7), (0, .ref x0), (1, .int x1), (2, .int x2), (5, .int x5)]) hz dX7_paid_55 (by decide) rfl ?_
      refine r_iinc (v := (x5 + (1 : Int32))) (lv' := [(5, .int (x5 + (1 : Int32))), (3, .long v7), (0, .ref x0), (1, .int x1), (2, .int x2)]) hz dX7_paid_56 4 rfl rfl (by decide) rfl ?_
      refine r_goto (tgt := 26) hz dX7_paid_59 rfl ?_
      refine r_sub [2, 3, 4, 1, 0] rfl ?_
      exact ih x0 x1 x2 v7 (x5 + (1 : Int32)) M5
def f_X7_paid (p0 : Nat) (p1 : Int32) (p2 : Int32) (M : Mm) : Option (Int64 × Mm) :=
  ck (gK M p0 = 7) (bd (f_X7_isLoan p0 p1 M) fun v2 M1 =>
  (if v2 = 0 then
    some ((-1 : Int64), M1)
  else
    (if p2 < 0 then
      some ((-1 : Int64), M1)
    else
      (if p2 ≤ (5 : Int32) then
        f_X7_paid_26 FU p0 p1 p2 (0 : Int64) (1 : Int32) M1
      else
        some ((-1 : Int64), M1)))))
set_option maxRecDepth 20000 in
set_option maxHeartbeats 4000000 in
theorem t_X7_paid (p0 : Nat) (p1 : Int32) (p2 : Int32) (M : Mm) (x : Int64) (M' : Mm) (h : f_X7_paid p0 p1 p2 M = some (x, M')) : Ctr yX7_paid cX7_paid 6 (some .long) rX7_paid (fun _ => [.ref p0, .int p1, .int p2]) M (zL x) M' := by
  refine ctr_of (plainFor_of_name (by decide)) (fun _ => Nat.le_of_ble_eq_true rfl) (fun z hz hin hq => ?_)
  have key : Sim z 0 [(0, .ref p0), (1, .int p1), (2, .int p2)] [] M 0 0 (f_X7_paid p0 p1 p2 M) (fun a b => a = x ∧ b = M') := by
    have hq : Ret z zL (fun a b => a = x ∧ b = M') := fun a b e => by rw [e.1, e.2]; exact hq
    unfold f_X7_paid
    refine r_aload_n hz dX7_paid_0 0 rfl ?_
    refine r_iload_n hz dX7_paid_1 1 rfl ?_
    refine r_callVi (As := fun _ => [.int p1]) cl7 hz (fun _ _ h => t_X7_isLoan _ _ _ _ _ h) cal_X7_isLoan dX7_paid_2 wm_3_149 wm_3_151 wm_p_25 rfl rfl (Nat.le_of_ble_eq_true rfl) ⟨(Nat.le_of_ble_eq_true rfl), (Nat.le_of_ble_eq_true rfl)⟩ ⟨(Nat.le_of_ble_eq_true rfl), (Nat.le_of_ble_eq_true rfl)⟩ (fun v2 M1 => ?_)
    refine r_if_eq (tgt := 17) hz dX7_paid_5 rfl ?_ ?_
    · refine r_ldc2 (v := -1) hz dX7_paid_17 wm_4_74 ?_
      exact r_lret hz hq dX7_paid_20 (Nat.le_of_ble_eq_true rfl) (Nat.le_of_ble_eq_true rfl)
    · refine r_iload_n hz dX7_paid_8 2 rfl ?_
      refine r_if_lt (tgt := 17) hz dX7_paid_9 rfl ?_ ?_
      · refine r_ldc2 (v := -1) hz dX7_paid_17 wm_4_74 ?_
        exact r_lret hz hq dX7_paid_20 (Nat.le_of_ble_eq_true rfl) (Nat.le_of_ble_eq_true rfl)
      · refine r_iload_n hz dX7_paid_12 2 rfl ?_
        refine r_iconst (v := 5) hz dX7_paid_13 rfl ?_
        refine r_icmp_le (tgt := 21) hz dX7_paid_14 rfl ?_ ?_
        · refine r_lconst (v := 0) hz dX7_paid_21 rfl ?_
          refine r_lstore_n (lv' := [(3, .long (0 : Int64)), (0, .ref p0), (1, .int p1), (2, .int p2)]) hz dX7_paid_22 (by decide) rfl ?_
          refine r_iconst (v := 1) hz dX7_paid_23 rfl ?_
          refine r_istore (lv' := [(5, .int (1 : Int32)), (3, .long (0 : Int64)), (0, .ref p0), (1, .int p1), (2, .int p2)]) hz dX7_paid_24 (by decide) rfl ?_
          refine r_sub [2, 3, 4, 1, 0] rfl ?_
          exact s_X7_paid_26 hz hq FU p0 p1 p2 (0 : Int64) (1 : Int32) M1
        · refine r_ldc2 (v := -1) hz dX7_paid_17 wm_4_74 ?_
          exact r_lret hz hq dX7_paid_20 (Nat.le_of_ble_eq_true rfl) (Nat.le_of_ble_eq_true rfl)
  exact key x M' h ⟨rfl, rfl⟩
