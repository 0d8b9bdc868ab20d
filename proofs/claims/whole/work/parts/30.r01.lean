theorem dX8_known_0 : decode cX8_known 0 = .ok (.aload_n 0, 1) := by decide +kernel
theorem dX8_known_1 : decode cX8_known 1 = .ok (.invokevirtual 157, 3) := by decide +kernel
theorem dX8_known_4 : decode cX8_known 4 = .ok (.ifCond .ne 9, 3) := by decide +kernel
theorem dX8_known_7 : decode cX8_known 7 = .ok (.aload_n 0, 1) := by decide +kernel
theorem dX8_known_8 : decode cX8_known 8 = .ok (.iconst 1, 1) := by decide +kernel
theorem dX8_known_9 : decode cX8_known 9 = .ok (.invokevirtual 144, 3) := by decide +kernel
theorem dX8_known_12 : decode cX8_known 12 = .ok (.ireturn, 1) := by decide +kernel
theorem dX8_known_13 : decode cX8_known 13 = .ok (.aload_n 0, 1) := by decide +kernel
theorem dX8_known_14 : decode cX8_known 14 = .ok (.iload_n 1, 1) := by decide +kernel
theorem dX8_known_15 : decode cX8_known 15 = .ok (.invokevirtual 160, 3) := by decide +kernel
theorem dX8_known_18 : decode cX8_known 18 = .ok (.istore_n 2, 1) := by decide +kernel
theorem dX8_known_19 : decode cX8_known 19 = .ok (.iload_n 2, 1) := by decide +kernel
theorem dX8_known_20 : decode cX8_known 20 = .ok (.iconst (-1), 1) := by decide +kernel
theorem dX8_known_21 : decode cX8_known 21 = .ok (.if_icmp .ne 9, 3) := by decide +kernel
theorem dX8_known_24 : decode cX8_known 24 = .ok (.aload_n 0, 1) := by decide +kernel
theorem dX8_known_25 : decode cX8_known 25 = .ok (.iconst 3, 1) := by decide +kernel
theorem dX8_known_26 : decode cX8_known 26 = .ok (.invokevirtual 144, 3) := by decide +kernel
theorem dX8_known_29 : decode cX8_known 29 = .ok (.ireturn, 1) := by decide +kernel
theorem dX8_known_30 : decode cX8_known 30 = .ok (.aload_n 0, 1) := by decide +kernel
theorem dX8_known_31 : decode cX8_known 31 = .ok (.iload_n 2, 1) := by decide +kernel
theorem dX8_known_32 : decode cX8_known 32 = .ok (.putfield 154, 3) := by decide +kernel
theorem dX8_known_35 : decode cX8_known 35 = .ok (.aload_n 0, 1) := by decide +kernel
theorem dX8_known_36 : decode cX8_known 36 = .ok (.invokevirtual 147, 3) := by decide +kernel
theorem dX8_known_39 : decode cX8_known 39 = .ok (.iconst 1, 1) := by decide +kernel
theorem dX8_known_40 : decode cX8_known 40 = .ok (.ireturn, 1) := by decide +kernel
abbrev rX8_known : Room := { frames := 3, cells := 0, slots := 0, locals := 61 }
theorem cal_X8_known : CalOk yX8_known cX8_known 3 (some .boolean) 1 := ⟨wm_6_42, wm_1_9, by decide, by decide, by decide +kernel⟩
def f_X8_known (p0 : Nat) (p1 : Int32) (M : Mm) : Option (Int32 × Mm) :=
  ck (gK M p0 = 8) (bd (f_X8_isName p0 M) fun v2 M1 =>
  (if ¬ v2 = 0 then
    ck (gK M1 p0 = 8) (bd (f_X8_named p0 p1 M1) fun v4 M3 =>
    (if ¬ v4 = (-1 : Int32) then
      ck (gK M3 p0 = 8) (nm (sI M3 p0 10 v4) fun M5 =>
      ck (gK M5 p0 = 8) (bd (f_X8_go p0 M5) fun _ M6 =>
      some ((1 : Int32), M6)))
    else
      ck (gK M3 p0 = 8) (bd (f_X8_bad p0 (3 : Int32) M3) fun v8 M7 =>
      ck (v8 = 0 ∨ v8 = 1) (some (v8, M7)))))
  else
    ck (gK M1 p0 = 8) (bd (f_X8_bad p0 (1 : Int32) M1) fun v11 M10 =>
    ck (v11 = 0 ∨ v11 = 1) (some (v11, M10)))))
set_option maxRecDepth 20000 in
set_option maxHeartbeats 4000000 in
theorem t_X8_known (p0 : Nat) (p1 : Int32) (M : Mm) (x : Int32) (M' : Mm) (h : f_X8_known p0 p1 M = some (x, M')) : Ctr yX8_known cX8_known 3 (some .boolean) rX8_known (fun _ => [.ref p0, .int p1]) M (zI x) M' := by
  refine ctr_of (plainFor_of_name (by decide)) (fun _ => Nat.le_of_ble_eq_true rfl) (fun z hz hin hq => ?_)
  have key : Sim z 0 [(0, .ref p0), (1, .int p1)] [] M 0 0 (f_X8_known p0 p1 M) (fun a b => a = x ∧ b = M') := by
    have hq : Ret z zI (fun a b => a = x ∧ b = M') := fun a b e => by rw [e.1, e.2]; exact hq
    unfold f_X8_known
    refine r_aload_n hz dX8_known_0 0 rfl ?_
    refine r_callVi (As := fun _ => []) cl8 hz (fun _ _ h => t_X8_isName _ _ _ _ h) cal_X8_isName dX8_known_1 wm_5_212 wm_5_214 wm_p_51 rfl rfl (Nat.le_of_ble_eq_true rfl) ⟨(Nat.le_of_ble_eq_true rfl), (Nat.le_of_ble_eq_true rfl)⟩ ⟨(Nat.le_of_ble_eq_true rfl), (Nat.le_of_ble_eq_true rfl)⟩ (fun v2 M1 => ?_)
    refine r_if_ne (tgt := 13) hz dX8_known_4 rfl ?_ ?_
    · refine r_aload_n hz dX8_known_13 0 rfl ?_
      refine r_iload_n hz dX8_known_14 1 rfl ?_
      refine r_callVi (As := fun _ => [.int p1]) cl8 hz (fun _ _ h => t_X8_named _ _ _ _ _ h) cal_X8_named dX8_known_15 wm_6_6 wm_6_8 wm_p_53 rfl rfl (Nat.le_of_ble_eq_true rfl) ⟨(Nat.le_of_ble_eq_true rfl), (Nat.le_of_ble_eq_true rfl)⟩ ⟨(Nat.le_of_ble_eq_true rfl), (Nat.le_of_ble_eq_true rfl)⟩ (fun v4 M3 => ?_)
      refine r_istore_n (lv' := [(2, .int v4), (0, .ref p0), (1, .int p1)]) hz dX8_known_18 (by decide) rfl ?_
      refine r_iload_n hz dX8_known_19 0 rfl ?_
      refine r_iconst (v := -1) hz dX8_known_20 rfl ?_
      refine r_icmp_ne (tgt := 30) hz dX8_known_21 rfl ?_ ?_
      · refine r_aload_n hz dX8_known_30 1 rfl ?_
        refine r_iload_n hz dX8_known_31 0 rfl ?_
        refine r_putI (j := 10) cl8 hz dX8_known_32 (by decide) wm_5_66 (Or.inl rfl) rfl rfl rfl ?_
        refine r_nmM (fun M5 => ?_)
        refine r_aload_n hz dX8_known_35 1 rfl ?_
        refine r_callVv (As := fun _ => []) cl8 hz (fun _ _ h => t_X8_go _ _ _ _ h) cal_X8_go dX8_known_36 wm_5_178 wm_5_180 wm_p_44 rfl rfl (Nat.le_of_ble_eq_true rfl) ⟨(Nat.le_of_ble_eq_true rfl), (Nat.le_of_ble_eq_true rfl)⟩ ⟨(Nat.le_of_ble_eq_true rfl), (Nat.le_of_ble_eq_true rfl)⟩ (fun _ M6 => ?_)
        refine r_iconst (v := 1) hz dX8_known_39 rfl ?_
        exact r_zret hz hq dX8_known_40 (Or.inr rfl) (Nat.le_of_ble_eq_true rfl) (Nat.le_of_ble_eq_true rfl)
      · refine r_aload_n hz dX8_known_24 1 rfl ?_
        refine r_iconst (v := 3) hz dX8_known_25 rfl ?_
        refine r_callVi (As := fun _ => [.int (3 : Int32)]) cl8 hz (fun _ _ h => t_X8_bad _ _ _ _ _ h) cal_X8_bad dX8_known_26 wm_5_204 wm_5_206 wm_p_49 rfl rfl (Nat.le_of_ble_eq_true rfl) ⟨(Nat.le_of_ble_eq_true rfl), (Nat.le_of_ble_eq_true rfl)⟩ ⟨(Nat.le_of_ble_eq_true rfl), (Nat.le_of_ble_eq_true rfl)⟩ (fun v8 M7 => ?_)
        refine r_ck (fun h9 => ?_)
        exact r_zret hz hq dX8_known_29 h9 (Nat.le_of_ble_eq_true rfl) (Nat.le_of_ble_eq_true rfl)
    · refine r_aload_n hz dX8_known_7 0 rfl ?_
      refine r_iconst (v := 1) hz dX8_known_8 rfl ?_
      refine r_callVi (As := fun _ => [.int (1 : Int32)]) cl8 hz (fun _ _ h => t_X8_bad _ _ _ _ _ h) cal_X8_bad dX8_known_9 wm_5_204 wm_5_206 wm_p_49 rfl rfl (Nat.le_of_ble_eq_true rfl) ⟨(Nat.le_of_ble_eq_true rfl), (Nat.le_of_ble_eq_true rfl)⟩ ⟨(Nat.le_of_ble_eq_true rfl), (Nat.le_of_ble_eq_true rfl)⟩ (fun v11 M10 => ?_)
      refine r_ck (fun h12 => ?_)
      exact r_zret hz hq dX8_known_12 h12 (Nat.le_of_ble_eq_true rfl) (Nat.le_of_ble_eq_true rfl)
  exact key x M' h ⟨rfl, rfl⟩
theorem dX8_worded_0 : decode cX8_worded 0 = .ok (.aload_n 0, 1) := by decide +kernel
theorem dX8_worded_1 : decode cX8_worded 1 = .ok (.iload_n 1, 1) := by decide +kernel
theorem dX8_worded_2 : decode cX8_worded 2 = .ok (.invokevirtual 164, 3) := by decide +kernel
theorem dX8_worded_5 : decode cX8_worded 5 = .ok (.ifCond .eq 13, 3) := by decide +kernel
theorem dX8_worded_8 : decode cX8_worded 8 = .ok (.aload_n 0, 1) := by decide +kernel
theorem dX8_worded_9 : decode cX8_worded 9 = .ok (.iload_n 3, 1) := by decide +kernel
theorem dX8_worded_10 : decode cX8_worded 10 = .ok (.iload 4, 2) := by decide +kernel
theorem dX8_worded_12 : decode cX8_worded 12 = .ok (.invokevirtual 167, 3) := by decide +kernel
theorem dX8_worded_15 : decode cX8_worded 15 = .ok (.ifCond .ne 5, 3) := by decide +kernel
theorem dX8_worded_18 : decode cX8_worded 18 = .ok (.iconst 0, 1) := by decide +kernel
theorem dX8_worded_19 : decode cX8_worded 19 = .ok (.ireturn, 1) := by decide +kernel
theorem dX8_worded_20 : decode cX8_worded 20 = .ok (.aload_n 0, 1) := by decide +kernel
theorem dX8_worded_21 : decode cX8_worded 21 = .ok (.getfield 17, 3) := by decide +kernel
theorem dX8_worded_24 : decode cX8_worded 24 = .ok (.iload_n 2, 1) := by decide +kernel
theorem dX8_worded_25 : decode cX8_worded 25 = .ok (.aload_n 0, 1) := by decide +kernel
theorem dX8_worded_26 : decode cX8_worded 26 = .ok (.getfield 154, 3) := by decide +kernel
theorem dX8_worded_29 : decode cX8_worded 29 = .ok (.iastore, 1) := by decide +kernel
theorem dX8_worded_30 : decode cX8_worded 30 = .ok (.iconst 1, 1) := by decide +kernel
theorem dX8_worded_31 : decode cX8_worded 31 = .ok (.ireturn, 1) := by decide +kernel
abbrev rX8_worded : Room := { frames := 3, cells := 0, slots := 0, locals := 69 }
theorem cal_X8_worded : CalOk yX8_worded cX8_worded 5 (some .boolean) 4 := ⟨wm_6_13, wm_1_9, by decide, by decide, by decide +kernel⟩
def f_X8_worded (p0 : Nat) (p1 : Int32) (p2 : Int32) (p3 : Int32) (p4 : Int32) (M : Mm) : Option (Int32 × Mm) :=
  ck (gK M p0 = 8) (bd (f_X8_takes p0 p1 M) fun v2 M1 =>
  (if v2 = 0 then
    some ((0 : Int32), M1)
  else
    ck (gK M1 p0 = 8) (bd (f_X8_number p0 p3 p4 M1) fun v4 M3 =>
    (if ¬ v4 = 0 then
      ck (gK M3 p0 = 8) (bR (gR M3 p0 12) fun q5 => ck (gK M3 p0 = 8) (ck (gK M3 q5 = 10 ∧ inb p2 (gN M3 q5)) (nm (sI M3 q5 (p2).toNatClampNeg (gI M3 p0 10)) fun M6 =>
      some ((1 : Int32), M6))))
    else
      some ((0 : Int32), M3)))))
set_option maxRecDepth 20000 in
set_option maxHeartbeats 4000000 in
theorem t_X8_worded (p0 : Nat) (p1 : Int32) (p2 : Int32) (p3 : Int32) (p4 : Int32) (M : Mm) (x : Int32) (M' : Mm) (h : f_X8_worded p0 p1 p2 p3 p4 M = some (x, M')) : Ctr yX8_worded cX8_worded 5 (some .boolean) rX8_worded (fun _ => [.ref p0, .int p1, .int p2, .int p3, .int p4]) M (zI x) M' := by
  refine ctr_of (plainFor_of_name (by decide)) (fun _ => Nat.le_of_ble_eq_true rfl) (fun z hz hin hq => ?_)
  have key : Sim z 0 [(0, .ref p0), (1, .int p1), (2, .int p2), (3, .int p3), (4, .int p4)] [] M 0 0 (f_X8_worded p0 p1 p2 p3 p4 M) (fun a b => a = x ∧ b = M') := by
    have hq : Ret z zI (fun a b => a = x ∧ b = M') := fun a b e => by rw [e.1, e.2]; exact hq
    unfold f_X8_worded
    refine r_aload_n hz dX8_worded_0 0 rfl ?_
    refine r_iload_n hz dX8_worded_1 1 rfl ?_
    refine r_callVi (As := fun _ => [.int p1]) cl8 hz (fun _ _ h => t_X8_takes _ _ _ _ _ h) cal_X8_takes dX8_worded_2 wm_6_14 wm_6_16 wm_p_55 rfl rfl (Nat.le_of_ble_eq_true rfl) ⟨(Nat.le_of_ble_eq_true rfl), (Nat.le_of_ble_eq_true rfl)⟩ ⟨(Nat.le_of_ble_eq_true rfl), (Nat.le_of_ble_eq_true rfl)⟩ (fun v2 M1 => ?_)
    refine r_if_eq (tgt := 18) hz dX8_worded_5 rfl ?_ ?_
    · refine r_iconst (v := 0) hz dX8_worded_18 rfl ?_
      exact r_zret hz hq dX8_worded_19 (Or.inl rfl) (Nat.le_of_ble_eq_true rfl) (Nat.le_of_ble_eq_true rfl)
    · refine r_aload_n hz dX8_worded_8 0 rfl ?_
      refine r_iload_n hz dX8_worded_9 3 rfl ?_
      refine r_iload hz dX8_worded_10 4 rfl ?_
      refine r_callVi (As := fun _ => [.int p3, .int p4]) cl8 hz (fun _ _ h => t_X8_number _ _ _ _ _ _ h) cal_X8_number dX8_worded_12 wm_6_18 wm_6_20 wm_p_56 rfl rfl (Nat.le_of_ble_eq_true rfl) ⟨(Nat.le_of_ble_eq_true rfl), (Nat.le_of_ble_eq_true rfl)⟩ ⟨(Nat.le_of_ble_eq_true rfl), (Nat.le_of_ble_eq_true rfl)⟩ (fun v4 M3 => ?_)
      refine r_if_ne (tgt := 20) hz dX8_worded_15 rfl ?_ ?_
      · refine r_aload_n hz dX8_worded_20 0 rfl ?_
        refine r_getR (j := 12) cl8 hz dX8_worded_21 (by decide) wm_5_68 rfl (fun q5 => ?_)
        refine r_iload_n hz dX8_worded_24 2 rfl ?_
        refine r_aload_n hz dX8_worded_25 0 rfl ?_
        refine r_getI (j := 10) cl8 hz dX8_worded_26 (by decide) wm_5_66 rfl ?_
        refine r_iast hz dX8_worded_29 ?_
        refine r_nmM (fun M6 => ?_)
        refine r_iconst (v := 1) hz dX8_worded_30 rfl ?_
        exact r_zret hz hq dX8_worded_31 (Or.inr rfl) (Nat.le_of_ble_eq_true rfl) (Nat.le_of_ble_eq_true rfl)
      · refine r_iconst (v := 0) hz dX8_worded_18 rfl ?_
        exact r_zret hz hq dX8_worded_19 (Or.inl rfl) (Nat.le_of_ble_eq_true rfl) (Nat.le_of_ble_eq_true rfl)
  exact key x M' h ⟨rfl, rfl⟩
theorem dX8_plan_0 : decode cX8_plan 0 = .ok (.aload_n 0, 1) := by decide +kernel
theorem dX8_plan_1 : decode cX8_plan 1 = .ok (.getstatic 110, 3) := by decide +kernel
theorem dX8_plan_4 : decode cX8_plan 4 = .ok (.invokevirtual 94, 3) := by decide +kernel
theorem dX8_plan_7 : decode cX8_plan 7 = .ok (.ifCond .eq 7, 3) := by decide +kernel
theorem dX8_plan_10 : decode cX8_plan 10 = .ok (.iconst 0, 1) := by decide +kernel
theorem dX8_plan_11 : decode cX8_plan 11 = .ok (.goto 32, 3) := by decide +kernel
theorem dX8_plan_14 : decode cX8_plan 14 = .ok (.aload_n 0, 1) := by decide +kernel
theorem dX8_plan_15 : decode cX8_plan 15 = .ok (.getstatic 116, 3) := by decide +kernel
theorem dX8_plan_18 : decode cX8_plan 18 = .ok (.invokevirtual 94, 3) := by decide +kernel
theorem dX8_plan_21 : decode cX8_plan 21 = .ok (.ifCond .eq 7, 3) := by decide +kernel
theorem dX8_plan_24 : decode cX8_plan 24 = .ok (.iconst 1, 1) := by decide +kernel
theorem dX8_plan_25 : decode cX8_plan 25 = .ok (.goto 18, 3) := by decide +kernel
theorem dX8_plan_28 : decode cX8_plan 28 = .ok (.aload_n 0, 1) := by decide +kernel
theorem dX8_plan_29 : decode cX8_plan 29 = .ok (.getstatic 113, 3) := by decide +kernel
theorem dX8_plan_32 : decode cX8_plan 32 = .ok (.invokevirtual 94, 3) := by decide +kernel
theorem dX8_plan_35 : decode cX8_plan 35 = .ok (.ifCond .eq 7, 3) := by decide +kernel
theorem dX8_plan_38 : decode cX8_plan 38 = .ok (.iconst 2, 1) := by decide +kernel
theorem dX8_plan_39 : decode cX8_plan 39 = .ok (.goto 4, 3) := by decide +kernel
theorem dX8_plan_42 : decode cX8_plan 42 = .ok (.iconst (-1), 1) := by decide +kernel
theorem dX8_plan_43 : decode cX8_plan 43 = .ok (.istore_n 2, 1) := by decide +kernel
theorem dX8_plan_44 : decode cX8_plan 44 = .ok (.iload_n 2, 1) := by decide +kernel
theorem dX8_plan_45 : decode cX8_plan 45 = .ok (.iconst (-1), 1) := by decide +kernel
theorem dX8_plan_46 : decode cX8_plan 46 = .ok (.if_icmp .ne 9, 3) := by decide +kernel
theorem dX8_plan_49 : decode cX8_plan 49 = .ok (.aload_n 0, 1) := by decide +kernel
theorem dX8_plan_50 : decode cX8_plan 50 = .ok (.iconst 1, 1) := by decide +kernel
theorem dX8_plan_51 : decode cX8_plan 51 = .ok (.invokevirtual 144, 3) := by decide +kernel
theorem dX8_plan_54 : decode cX8_plan 54 = .ok (.ireturn, 1) := by decide +kernel
theorem dX8_plan_55 : decode cX8_plan 55 = .ok (.aload_n 0, 1) := by decide +kernel
theorem dX8_plan_56 : decode cX8_plan 56 = .ok (.getfield 17, 3) := by decide +kernel
theorem dX8_plan_59 : decode cX8_plan 59 = .ok (.iload_n 1, 1) := by decide +kernel
theorem dX8_plan_60 : decode cX8_plan 60 = .ok (.iconst 4, 1) := by decide +kernel
theorem dX8_plan_61 : decode cX8_plan 61 = .ok (.iadd, 1) := by decide +kernel
theorem dX8_plan_62 : decode cX8_plan 62 = .ok (.iload_n 2, 1) := by decide +kernel
theorem dX8_plan_63 : decode cX8_plan 63 = .ok (.iastore, 1) := by decide +kernel
theorem dX8_plan_64 : decode cX8_plan 64 = .ok (.aload_n 0, 1) := by decide +kernel
theorem dX8_plan_65 : decode cX8_plan 65 = .ok (.getfield 17, 3) := by decide +kernel
theorem dX8_plan_68 : decode cX8_plan 68 = .ok (.iload_n 1, 1) := by decide +kernel
theorem dX8_plan_69 : decode cX8_plan 69 = .ok (.iconst 5, 1) := by decide +kernel
theorem dX8_plan_70 : decode cX8_plan 70 = .ok (.iadd, 1) := by decide +kernel
theorem dX8_plan_71 : decode cX8_plan 71 = .ok (.iconst 0, 1) := by decide +kernel
theorem dX8_plan_72 : decode cX8_plan 72 = .ok (.iastore, 1) := by decide +kernel
theorem dX8_plan_73 : decode cX8_plan 73 = .ok (.aload_n 0, 1) := by decide +kernel
theorem dX8_plan_74 : decode cX8_plan 74 = .ok (.invokevirtual 147, 3) := by decide +kernel
theorem dX8_plan_77 : decode cX8_plan 77 = .ok (.iload_n 2, 1) := by decide +kernel
theorem dX8_plan_78 : decode cX8_plan 78 = .ok (.iconst 1, 1) := by decide +kernel
theorem dX8_plan_79 : decode cX8_plan 79 = .ok (.if_icmp .ne 27, 3) := by decide +kernel
theorem dX8_plan_82 : decode cX8_plan 82 = .ok (.aload_n 0, 1) := by decide +kernel
theorem dX8_plan_83 : decode cX8_plan 83 = .ok (.iconst 1, 1) := by decide +kernel
theorem dX8_plan_84 : decode cX8_plan 84 = .ok (.ldc 170, 2) := by decide +kernel
theorem dX8_plan_86 : decode cX8_plan 86 = .ok (.invokevirtual 167, 3) := by decide +kernel
theorem dX8_plan_89 : decode cX8_plan 89 = .ok (.ifCond .ne 5, 3) := by decide +kernel
theorem dX8_plan_92 : decode cX8_plan 92 = .ok (.iconst 0, 1) := by decide +kernel
theorem dX8_plan_93 : decode cX8_plan 93 = .ok (.ireturn, 1) := by decide +kernel
theorem dX8_plan_94 : decode cX8_plan 94 = .ok (.aload_n 0, 1) := by decide +kernel
theorem dX8_plan_95 : decode cX8_plan 95 = .ok (.getfield 17, 3) := by decide +kernel
theorem dX8_plan_98 : decode cX8_plan 98 = .ok (.iload_n 1, 1) := by decide +kernel
theorem dX8_plan_99 : decode cX8_plan 99 = .ok (.iconst 5, 1) := by decide +kernel
theorem dX8_plan_100 : decode cX8_plan 100 = .ok (.iadd, 1) := by decide +kernel
theorem dX8_plan_101 : decode cX8_plan 101 = .ok (.aload_n 0, 1) := by decide +kernel
theorem dX8_plan_102 : decode cX8_plan 102 = .ok (.getfield 154, 3) := by decide +kernel
theorem dX8_plan_105 : decode cX8_plan 105 = .ok (.iastore, 1) := by decide +kernel
theorem dX8_plan_106 : decode cX8_plan 106 = .ok (.iconst 1, 1) := by decide +kernel
theorem dX8_plan_107 : decode cX8_plan 107 = .ok (.ireturn, 1) := by decide +kernel
abbrev rX8_plan : Room := { frames := 3, cells := 0, slots := 0, locals := 69 }
theorem cal_X8_plan : CalOk yX8_plan cX8_plan 3 (some .boolean) 1 := ⟨wm_6_29, wm_1_9, by decide, by decide, by decide +kernel⟩
def f_X8_plan_43 (x0 : Nat) (x1 : Int32) (y0 : Int32) (M : Mm) : Option (Int32 × Mm) :=
  (if ¬ y0 = (-1 : Int32) then
    ck (gK M x0 = 8) (bR (gR M x0 12) fun q1 => ck (gK M q1 = 10 ∧ inb (x1 + (4 : Int32)) (gN M q1)) (nm (sI M q1 ((x1 + (4 : Int32))).toNatClampNeg y0) fun M2 =>
    ck (gK M2 x0 = 8) (bR (gR M2 x0 12) fun q3 => ck (gK M2 q3 = 10 ∧ inb (x1 + (5 : Int32)) (gN M2 q3)) (nm (sI M2 q3 ((x1 + (5 : Int32))).toNatClampNeg (0 : Int32)) fun M4 =>
    ck (gK M4 x0 = 8) (bd (f_X8_go x0 M4) fun _ M5 =>
    (if ¬ y0 = (1 : Int32) then
      some ((1 : Int32), M5)
    else
      ck (gK M5 x0 = 8) (bd (f_X8_number x0 (1 : Int32) (99999 : Int32) M5) fun v7 M6 =>
      (if ¬ v7 = 0 then
        ck (gK M6 x0 = 8) (bR (gR M6 x0 12) fun q8 => ck (gK M6 x0 = 8) (ck (gK M6 q8 = 10 ∧ inb (x1 + (5 : Int32)) (gN M6 q8)) (nm (sI M6 q8 ((x1 + (5 : Int32))).toNatClampNeg (gI M6 x0 10)) fun M9 =>
        some ((1 : Int32), M9))))
      else
        some ((0 : Int32), M6)))))))))
  else
    ck (gK M x0 = 8) (bd (f_X8_bad x0 (1 : Int32) M) fun v11 M10 =>
    ck (v11 = 0 ∨ v11 = 1) (some (v11, M10))))
set_option maxRecDepth 20000 in
set_option maxHeartbeats 4000000 in
theorem s_X8_plan_43 {z : Zt} {K : Int32 → Mm → Prop} (hz : Good z RX8 cX8_plan 3 rX8_plan (some .boolean)) (hq : Ret z zI K) : ∀ (x0 : Nat) (x1 : Int32) (y0 : Int32) (M : Mm), Sim z 43 [(0, .ref x0), (1, .int x1)] [.int y0] M 0 0 (f_X8_plan_43 x0 x1 y0 M) K := by
  intro x0 x1 y0 M
  unfold f_X8_plan_43
  refine r_istore_n (lv' := [(2, .int y0), (0, .ref x0), (1, .int x1)]) hz dX8_plan_43 (by decide) rfl ?_
  refine r_iload_n hz dX8_plan_44 0 rfl ?_
  refine r_iconst (v := -1) hz dX8_plan_45 rfl ?_
  refine r_icmp_ne (tgt := 55) hz dX8_plan_46 rfl ?_ ?_
  · refine r_aload_n hz dX8_plan_55 1 rfl ?_
    refine r_getR (j := 12) cl8 hz dX8_plan_56 (by decide) wm_5_68 rfl (fun q1 => ?_)
    refine r_iload_n hz dX8_plan_59 2 rfl ?_
    refine r_iconst (v := 4) hz dX8_plan_60 rfl ?_
    refine r_iadd hz dX8_plan_61 ?_
    refine r_iload_n hz dX8_plan_62 0 rfl ?_
    refine r_iast hz dX8_plan_63 ?_
    refine r_nmM (fun M2 => ?_)
    refine r_aload_n hz dX8_plan_64 1 rfl ?_
    refine r_getR (j := 12) cl8 hz dX8_plan_65 (by decide) wm_5_68 rfl (fun q3 => ?_)
    refine r_iload_n hz dX8_plan_68 2 rfl ?_
    refine r_iconst (v := 5) hz dX8_plan_69 rfl ?_
    refine r_iadd hz dX8_plan_70 ?_
    refine r_iconst (v := 0) hz dX8_plan_71 rfl ?_
    refine r_iast hz dX8_plan_72 ?_
    refine r_nmM (fun M4 => ?_)
    refine r_aload_n hz dX8_plan_73 1 rfl ?_
    refine r_callVv (As := fun _ => []) cl8 hz (fun _ _ h => t_X8_go _ _ _ _ h) cal_X8_go dX8_plan_74 wm_5_178 wm_5_180 wm_p_44 rfl rfl (Nat.le_of_ble_eq_true rfl) ⟨(Nat.le_of_ble_eq_true rfl), (Nat.le_of_ble_eq_true rfl)⟩ ⟨(Nat.le_of_ble_eq_true rfl), (Nat.le_of_ble_eq_true rfl)⟩ (fun _ M5 => ?_)
    refine r_iload_n hz dX8_plan_77 0 rfl ?_
    refine r_iconst (v := 1) hz dX8_plan_78 rfl ?_
    refine r_icmp_ne (tgt := 106) hz dX8_plan_79 rfl ?_ ?_
    · refine r_iconst (v := 1) hz dX8_plan_106 rfl ?_
      exact r_zret hz hq dX8_plan_107 (Or.inr rfl) (Nat.le_of_ble_eq_true rfl) (Nat.le_of_ble_eq_true rfl)
    · refine r_aload_n hz dX8_plan_82 1 rfl ?_
      refine r_iconst (v := 1) hz dX8_plan_83 rfl ?_
      refine r_ldc (v := 99999) hz dX8_plan_84 wm_6_30 ?_
      refine r_callVi (As := fun _ => [.int (1 : Int32), .int (99999 : Int32)]) cl8 hz (fun _ _ h => t_X8_number _ _ _ _ _ _ h) cal_X8_number dX8_plan_86 wm_6_18 wm_6_20 wm_p_56 rfl rfl (Nat.le_of_ble_eq_true rfl) ⟨(Nat.le_of_ble_eq_true rfl), (Nat.le_of_ble_eq_true rfl)⟩ ⟨(Nat.le_of_ble_eq_true rfl), (Nat.le_of_ble_eq_true rfl)⟩ (fun v7 M6 => ?_)
      refine r_if_ne (tgt := 94) hz dX8_plan_89 rfl ?_ ?_
      · refine r_aload_n hz dX8_plan_94 1 rfl ?_
        refine r_getR (j := 12) cl8 hz dX8_plan_95 (by decide) wm_5_68 rfl (fun q8 => ?_)
        refine r_iload_n hz dX8_plan_98 2 rfl ?_
        refine r_iconst (v := 5) hz dX8_plan_99 rfl ?_
        refine r_iadd hz dX8_plan_100 ?_
        refine r_aload_n hz dX8_plan_101 1 rfl ?_
        refine r_getI (j := 10) cl8 hz dX8_plan_102 (by decide) wm_5_66 rfl ?_
        refine r_iast hz dX8_plan_105 ?_
        refine r_nmM (fun M9 => ?_)
        refine r_iconst (v := 1) hz dX8_plan_106 rfl ?_
        exact r_zret hz hq dX8_plan_107 (Or.inr rfl) (Nat.le_of_ble_eq_true rfl) (Nat.le_of_ble_eq_true rfl)
      · refine r_iconst (v := 0) hz dX8_plan_92 rfl ?_
        exact r_zret hz hq dX8_plan_93 (Or.inl rfl) (Nat.le_of_ble_eq_true rfl) (Nat.le_of_ble_eq_true rfl)
  · refine r_aload_n hz dX8_plan_49 1 rfl ?_
    refine r_iconst (v := 1) hz dX8_plan_50 rfl ?_
    refine r_callVi (As := fun _ => [.int (1 : Int32)]) cl8 hz (fun _ _ h => t_X8_bad _ _ _ _ _ h) cal_X8_bad dX8_plan_51 wm_5_204 wm_5_206 wm_p_49 rfl rfl (Nat.le_of_ble_eq_true rfl) ⟨(Nat.le_of_ble_eq_true rfl), (Nat.le_of_ble_eq_true rfl)⟩ ⟨(Nat.le_of_ble_eq_true rfl), (Nat.le_of_ble_eq_true rfl)⟩ (fun v11 M10 => ?_)
    refine r_ck (fun h12 => ?_)
    exact r_zret hz hq dX8_plan_54 h12 (Nat.le_of_ble_eq_true rfl) (Nat.le_of_ble_eq_true rfl)
def f_X8_plan (p0 : Nat) (p1 : Int32) (M : Mm) : Option (Int32 × Mm) :=
  ck (gK M p0 = 8) (bd (f_X8_is p0 (186542 : Int32) M) fun v2 M1 =>
  (if v2 = 0 then
    ck (gK M1 p0 = 8) (bd (f_X8_is p0 (632267 : Int32) M1) fun v4 M3 =>
    (if v4 = 0 then
      ck (gK M3 p0 = 8) (bd (f_X8_is p0 (5572 : Int32) M3) fun v6 M5 =>
      (if v6 = 0 then
        f_X8_plan_43 p0 p1 (-1 : Int32) M5
      else
        f_X8_plan_43 p0 p1 (2 : Int32) M5))
    else
      f_X8_plan_43 p0 p1 (1 : Int32) M3))
  else
    f_X8_plan_43 p0 p1 (0 : Int32) M1))
set_option maxRecDepth 20000 in
set_option maxHeartbeats 4000000 in
theorem t_X8_plan (p0 : Nat) (p1 : Int32) (M : Mm) (x : Int32) (M' : Mm) (h : f_X8_plan p0 p1 M = some (x, M')) : Ctr yX8_plan cX8_plan 3 (some .boolean) rX8_plan (fun _ => [.ref p0, .int p1]) M (zI x) M' := by
  refine ctr_of (plainFor_of_name (by decide)) (fun _ => Nat.le_of_ble_eq_true rfl) (fun z hz hin hq => ?_)
  have key : Sim z 0 [(0, .ref p0), (1, .int p1)] [] M 0 0 (f_X8_plan p0 p1 M) (fun a b => a = x ∧ b = M') := by
    have hq : Ret z zI (fun a b => a = x ∧ b = M') := fun a b e => by rw [e.1, e.2]; exact hq
    unfold f_X8_plan
    refine r_aload_n hz dX8_plan_0 0 rfl ?_
    refine r_getS (v := 186542) hz dX8_plan_1 (List.mem_of_getElem? (i := 5) rfl) wm_5_228 ?_
    refine r_callVi (As := fun _ => [.int (186542 : Int32)]) cl8 hz (fun _ _ h => t_X8_is _ _ _ _ _ h) cal_X8_is dX8_plan_4 wm_5_196 wm_5_198 wm_p_47 rfl rfl (Nat.le_of_ble_eq_true rfl) ⟨(Nat.le_of_ble_eq_true rfl), (Nat.le_of_ble_eq_true rfl)⟩ ⟨(Nat.le_of_ble_eq_true rfl), (Nat.le_of_ble_eq_true rfl)⟩ (fun v2 M1 => ?_)
    refine r_if_eq (tgt := 14) hz dX8_plan_7 rfl ?_ ?_
    · refine r_aload_n hz dX8_plan_14 0 rfl ?_
      refine r_getS (v := 632267) hz dX8_plan_15 (List.mem_of_getElem? (i := 7) rfl) wm_5_232 ?_
      refine r_callVi (As := fun _ => [.int (632267 : Int32)]) cl8 hz (fun _ _ h => t_X8_is _ _ _ _ _ h) cal_X8_is dX8_plan_18 wm_5_196 wm_5_198 wm_p_47 rfl rfl (Nat.le_of_ble_eq_true rfl) ⟨(Nat.le_of_ble_eq_true rfl), (Nat.le_of_ble_eq_true rfl)⟩ ⟨(Nat.le_of_ble_eq_true rfl), (Nat.le_of_ble_eq_true rfl)⟩ (fun v4 M3 => ?_)
      refine r_if_eq (tgt := 28) hz dX8_plan_21 rfl ?_ ?_
      · refine r_aload_n hz dX8_plan_28 0 rfl ?_
        refine r_getS (v := 5572) hz dX8_plan_29 (List.mem_of_getElem? (i := 6) rfl) wm_5_230 ?_
        refine r_callVi (As := fun _ => [.int (5572 : Int32)]) cl8 hz (fun _ _ h => t_X8_is _ _ _ _ _ h) cal_X8_is dX8_plan_32 wm_5_196 wm_5_198 wm_p_47 rfl rfl (Nat.le_of_ble_eq_true rfl) ⟨(Nat.le_of_ble_eq_true rfl), (Nat.le_of_ble_eq_true rfl)⟩ ⟨(Nat.le_of_ble_eq_true rfl), (Nat.le_of_ble_eq_true rfl)⟩ (fun v6 M5 => ?_)
        refine r_if_eq (tgt := 42) hz dX8_plan_35 rfl ?_ ?_
        · refine r_iconst (v := -1) hz dX8_plan_42 rfl ?_
          exact s_X8_plan_43 hz hq p0 p1 (-1 : Int32) M5
        · refine r_iconst (v := 2) hz dX8_plan_38 rfl ?_
          refine r_goto (tgt := 43) hz dX8_plan_39 rfl ?_
          exact s_X8_plan_43 hz hq p0 p1 (2 : Int32) M5
      · refine r_iconst (v := 1) hz dX8_plan_24 rfl ?_
        refine r_goto (tgt := 43) hz dX8_plan_25 rfl ?_
        exact s_X8_plan_43 hz hq p0 p1 (1 : Int32) M3
    · refine r_iconst (v := 0) hz dX8_plan_10 rfl ?_
      refine r_goto (tgt := 43) hz dX8_plan_11 rfl ?_
      exact s_X8_plan_43 hz hq p0 p1 (0 : Int32) M1
  exact key x M' h ⟨rfl, rfl⟩
theorem dX8_loanLine_0 : decode cX8_loanLine 0 = .ok (.aload_n 0, 1) := by decide +kernel
theorem dX8_loanLine_1 : decode cX8_loanLine 1 = .ok (.getfield 17, 3) := by decide +kernel
theorem dX8_loanLine_4 : decode cX8_loanLine 4 = .ok (.iconst 0, 1) := by decide +kernel
theorem dX8_loanLine_5 : decode cX8_loanLine 5 = .ok (.iaload, 1) := by decide +kernel
theorem dX8_loanLine_6 : decode cX8_loanLine 6 = .ok (.istore_n 1, 1) := by decide +kernel
theorem dX8_loanLine_7 : decode cX8_loanLine 7 = .ok (.iload_n 1, 1) := by decide +kernel
theorem dX8_loanLine_8 : decode cX8_loanLine 8 = .ok (.iconst 4, 1) := by decide +kernel
theorem dX8_loanLine_9 : decode cX8_loanLine 9 = .ok (.if_icmp .ne 9, 3) := by decide +kernel
theorem dX8_loanLine_12 : decode cX8_loanLine 12 = .ok (.aload_n 0, 1) := by decide +kernel
theorem dX8_loanLine_13 : decode cX8_loanLine 13 = .ok (.iconst 5, 1) := by decide +kernel
theorem dX8_loanLine_14 : decode cX8_loanLine 14 = .ok (.invokevirtual 144, 3) := by decide +kernel
theorem dX8_loanLine_17 : decode cX8_loanLine 17 = .ok (.ireturn, 1) := by decide +kernel
theorem dX8_loanLine_18 : decode cX8_loanLine 18 = .ok (.aload_n 0, 1) := by decide +kernel
theorem dX8_loanLine_19 : decode cX8_loanLine 19 = .ok (.invokevirtual 147, 3) := by decide +kernel
theorem dX8_loanLine_22 : decode cX8_loanLine 22 = .ok (.bipush 12, 2) := by decide +kernel
theorem dX8_loanLine_24 : decode cX8_loanLine 24 = .ok (.bipush 7, 2) := by decide +kernel
theorem dX8_loanLine_26 : decode cX8_loanLine 26 = .ok (.iload_n 1, 1) := by decide +kernel
theorem dX8_loanLine_27 : decode cX8_loanLine 27 = .ok (.imul, 1) := by decide +kernel
theorem dX8_loanLine_28 : decode cX8_loanLine 28 = .ok (.iadd, 1) := by decide +kernel
theorem dX8_loanLine_29 : decode cX8_loanLine 29 = .ok (.istore_n 2, 1) := by decide +kernel
theorem dX8_loanLine_30 : decode cX8_loanLine 30 = .ok (.aload_n 0, 1) := by decide +kernel
theorem dX8_loanLine_31 : decode cX8_loanLine 31 = .ok (.iconst 2, 1) := by decide +kernel
theorem dX8_loanLine_32 : decode cX8_loanLine 32 = .ok (.iload_n 1, 1) := by decide +kernel
theorem dX8_loanLine_33 : decode cX8_loanLine 33 = .ok (.iadd, 1) := by decide +kernel
theorem dX8_loanLine_34 : decode cX8_loanLine 34 = .ok (.invokevirtual 171, 3) := by decide +kernel
theorem dX8_loanLine_37 : decode cX8_loanLine 37 = .ok (.ifCond .eq 76, 3) := by decide +kernel
theorem dX8_loanLine_40 : decode cX8_loanLine 40 = .ok (.aload_n 0, 1) := by decide +kernel
theorem dX8_loanLine_41 : decode cX8_loanLine 41 = .ok (.getstatic 98, 3) := by decide +kernel
theorem dX8_loanLine_44 : decode cX8_loanLine 44 = .ok (.iload_n 2, 1) := by decide +kernel
theorem dX8_loanLine_45 : decode cX8_loanLine 45 = .ok (.iconst 0, 1) := by decide +kernel
theorem dX8_loanLine_46 : decode cX8_loanLine 46 = .ok (.iadd, 1) := by decide +kernel
theorem dX8_loanLine_47 : decode cX8_loanLine 47 = .ok (.iconst 1, 1) := by decide +kernel
theorem dX8_loanLine_48 : decode cX8_loanLine 48 = .ok (.bipush 60, 2) := by decide +kernel
theorem dX8_loanLine_50 : decode cX8_loanLine 50 = .ok (.invokevirtual 174, 3) := by decide +kernel
theorem dX8_loanLine_53 : decode cX8_loanLine 53 = .ok (.ifCond .eq 60, 3) := by decide +kernel
theorem dX8_loanLine_56 : decode cX8_loanLine 56 = .ok (.aload_n 0, 1) := by decide +kernel
theorem dX8_loanLine_57 : decode cX8_loanLine 57 = .ok (.getstatic 101, 3) := by decide +kernel
theorem dX8_loanLine_60 : decode cX8_loanLine 60 = .ok (.iload_n 2, 1) := by decide +kernel
theorem dX8_loanLine_61 : decode cX8_loanLine 61 = .ok (.iconst 1, 1) := by decide +kernel
theorem dX8_loanLine_62 : decode cX8_loanLine 62 = .ok (.iadd, 1) := by decide +kernel
theorem dX8_loanLine_63 : decode cX8_loanLine 63 = .ok (.iconst 1, 1) := by decide +kernel
theorem dX8_loanLine_64 : decode cX8_loanLine 64 = .ok (.sipush 999, 3) := by decide +kernel
theorem dX8_loanLine_67 : decode cX8_loanLine 67 = .ok (.invokevirtual 174, 3) := by decide +kernel
theorem dX8_loanLine_70 : decode cX8_loanLine 70 = .ok (.ifCond .eq 43, 3) := by decide +kernel
theorem dX8_loanLine_73 : decode cX8_loanLine 73 = .ok (.aload_n 0, 1) := by decide +kernel
theorem dX8_loanLine_74 : decode cX8_loanLine 74 = .ok (.getstatic 104, 3) := by decide +kernel
theorem dX8_loanLine_77 : decode cX8_loanLine 77 = .ok (.iload_n 2, 1) := by decide +kernel
theorem dX8_loanLine_78 : decode cX8_loanLine 78 = .ok (.iconst 2, 1) := by decide +kernel
theorem dX8_loanLine_79 : decode cX8_loanLine 79 = .ok (.iadd, 1) := by decide +kernel
theorem dX8_loanLine_80 : decode cX8_loanLine 80 = .ok (.iconst 0, 1) := by decide +kernel
theorem dX8_loanLine_81 : decode cX8_loanLine 81 = .ok (.bipush 99, 2) := by decide +kernel
theorem dX8_loanLine_83 : decode cX8_loanLine 83 = .ok (.invokevirtual 174, 3) := by decide +kernel
theorem dX8_loanLine_86 : decode cX8_loanLine 86 = .ok (.ifCond .eq 27, 3) := by decide +kernel
theorem dX8_loanLine_89 : decode cX8_loanLine 89 = .ok (.aload_n 0, 1) := by decide +kernel
theorem dX8_loanLine_90 : decode cX8_loanLine 90 = .ok (.getstatic 107, 3) := by decide +kernel
theorem dX8_loanLine_93 : decode cX8_loanLine 93 = .ok (.iload_n 2, 1) := by decide +kernel
theorem dX8_loanLine_94 : decode cX8_loanLine 94 = .ok (.iconst 3, 1) := by decide +kernel
theorem dX8_loanLine_95 : decode cX8_loanLine 95 = .ok (.iadd, 1) := by decide +kernel
theorem dX8_loanLine_96 : decode cX8_loanLine 96 = .ok (.iconst 1, 1) := by decide +kernel
theorem dX8_loanLine_97 : decode cX8_loanLine 97 = .ok (.bipush 20, 2) := by decide +kernel
theorem dX8_loanLine_99 : decode cX8_loanLine 99 = .ok (.invokevirtual 174, 3) := by decide +kernel
theorem dX8_loanLine_102 : decode cX8_loanLine 102 = .ok (.ifCond .eq 11, 3) := by decide +kernel
theorem dX8_loanLine_105 : decode cX8_loanLine 105 = .ok (.aload_n 0, 1) := by decide +kernel
theorem dX8_loanLine_106 : decode cX8_loanLine 106 = .ok (.iload_n 2, 1) := by decide +kernel
theorem dX8_loanLine_107 : decode cX8_loanLine 107 = .ok (.invokevirtual 178, 3) := by decide +kernel
theorem dX8_loanLine_110 : decode cX8_loanLine 110 = .ok (.ifCond .ne 5, 3) := by decide +kernel
theorem dX8_loanLine_113 : decode cX8_loanLine 113 = .ok (.iconst 0, 1) := by decide +kernel
theorem dX8_loanLine_114 : decode cX8_loanLine 114 = .ok (.ireturn, 1) := by decide +kernel
theorem dX8_loanLine_115 : decode cX8_loanLine 115 = .ok (.aload_n 0, 1) := by decide +kernel
theorem dX8_loanLine_116 : decode cX8_loanLine 116 = .ok (.getfield 17, 3) := by decide +kernel
theorem dX8_loanLine_119 : decode cX8_loanLine 119 = .ok (.iload_n 2, 1) := by decide +kernel
theorem dX8_loanLine_120 : decode cX8_loanLine 120 = .ok (.bipush 6, 2) := by decide +kernel
theorem dX8_loanLine_122 : decode cX8_loanLine 122 = .ok (.iadd, 1) := by decide +kernel
theorem dX8_loanLine_123 : decode cX8_loanLine 123 = .ok (.bipush 20, 2) := by decide +kernel
theorem dX8_loanLine_125 : decode cX8_loanLine 125 = .ok (.iastore, 1) := by decide +kernel
theorem dX8_loanLine_126 : decode cX8_loanLine 126 = .ok (.aload_n 0, 1) := by decide +kernel
theorem dX8_loanLine_127 : decode cX8_loanLine 127 = .ok (.getstatic 119, 3) := by decide +kernel
theorem dX8_loanLine_130 : decode cX8_loanLine 130 = .ok (.invokevirtual 94, 3) := by decide +kernel
theorem dX8_loanLine_133 : decode cX8_loanLine 133 = .ok (.ifCond .eq 22, 3) := by decide +kernel
theorem dX8_loanLine_136 : decode cX8_loanLine 136 = .ok (.aload_n 0, 1) := by decide +kernel
theorem dX8_loanLine_137 : decode cX8_loanLine 137 = .ok (.getstatic 119, 3) := by decide +kernel
theorem dX8_loanLine_140 : decode cX8_loanLine 140 = .ok (.iload_n 2, 1) := by decide +kernel
theorem dX8_loanLine_141 : decode cX8_loanLine 141 = .ok (.bipush 6, 2) := by decide +kernel
theorem dX8_loanLine_143 : decode cX8_loanLine 143 = .ok (.iadd, 1) := by decide +kernel
theorem dX8_loanLine_144 : decode cX8_loanLine 144 = .ok (.iconst 1, 1) := by decide +kernel
theorem dX8_loanLine_145 : decode cX8_loanLine 145 = .ok (.bipush 20, 2) := by decide +kernel
theorem dX8_loanLine_147 : decode cX8_loanLine 147 = .ok (.invokevirtual 174, 3) := by decide +kernel
theorem dX8_loanLine_150 : decode cX8_loanLine 150 = .ok (.ifCond .ne 5, 3) := by decide +kernel
theorem dX8_loanLine_153 : decode cX8_loanLine 153 = .ok (.iconst 0, 1) := by decide +kernel
theorem dX8_loanLine_154 : decode cX8_loanLine 154 = .ok (.ireturn, 1) := by decide +kernel
theorem dX8_loanLine_155 : decode cX8_loanLine 155 = .ok (.aload_n 0, 1) := by decide +kernel
theorem dX8_loanLine_156 : decode cX8_loanLine 156 = .ok (.getfield 23, 3) := by decide +kernel
theorem dX8_loanLine_159 : decode cX8_loanLine 159 = .ok (.sipush 1207, 3) := by decide +kernel
theorem dX8_loanLine_162 : decode cX8_loanLine 162 = .ok (.iload_n 1, 1) := by decide +kernel
theorem dX8_loanLine_163 : decode cX8_loanLine 163 = .ok (.iadd, 1) := by decide +kernel
theorem dX8_loanLine_164 : decode cX8_loanLine 164 = .ok (.iload_n 1, 1) := by decide +kernel
theorem dX8_loanLine_165 : decode cX8_loanLine 165 = .ok (.iconst 1, 1) := by decide +kernel
theorem dX8_loanLine_166 : decode cX8_loanLine 166 = .ok (.iadd, 1) := by decide +kernel
theorem dX8_loanLine_167 : decode cX8_loanLine 167 = .ok (.iastore, 1) := by decide +kernel
theorem dX8_loanLine_168 : decode cX8_loanLine 168 = .ok (.aload_n 0, 1) := by decide +kernel
theorem dX8_loanLine_169 : decode cX8_loanLine 169 = .ok (.getfield 17, 3) := by decide +kernel
theorem dX8_loanLine_172 : decode cX8_loanLine 172 = .ok (.iconst 0, 1) := by decide +kernel
theorem dX8_loanLine_173 : decode cX8_loanLine 173 = .ok (.dup2, 1) := by decide +kernel
theorem dX8_loanLine_174 : decode cX8_loanLine 174 = .ok (.iaload, 1) := by decide +kernel
theorem dX8_loanLine_175 : decode cX8_loanLine 175 = .ok (.iconst 1, 1) := by decide +kernel
theorem dX8_loanLine_176 : decode cX8_loanLine 176 = .ok (.iadd, 1) := by decide +kernel
theorem dX8_loanLine_177 : decode cX8_loanLine 177 = .ok (.iastore, 1) := by decide +kernel
theorem dX8_loanLine_178 : decode cX8_loanLine 178 = .ok (.iconst 1, 1) := by decide +kernel
theorem dX8_loanLine_179 : decode cX8_loanLine 179 = .ok (.ireturn, 1) := by decide +kernel
abbrev rX8_loanLine : Room := { frames := 4, cells := 0, slots := 0, locals := 93 }
theorem cal_X8_loanLine : CalOk yX8_loanLine cX8_loanLine 3 (some .boolean) 0 := ⟨wm_5_203, wm_1_9, by decide, by decide, by decide +kernel⟩
def f_X8_loanLine_155 (x0 : Nat) (x1 : Int32) (M : Mm) : Option (Int32 × Mm) :=
  ck (gK M x0 = 8) (bR (gR M x0 18) fun q1 => ck (gK M q1 = 10 ∧ inb ((1207 : Int32) + x1) (gN M q1)) (nm (sI M q1 (((1207 : Int32) + x1)).toNatClampNeg (x1 + (1 : Int32))) fun M2 =>
  ck (gK M2 x0 = 8) (bR (gR M2 x0 12) fun q3 => ck (gK M2 q3 = 10 ∧ inb (0 : Int32) (gN M2 q3)) (ck (gK M2 q3 = 10 ∧ inb (0 : Int32) (gN M2 q3)) (nm (sI M2 q3 ((0 : Int32)).toNatClampNeg ((gI M2 q3 ((0 : Int32)).toNatClampNeg) + (1 : Int32))) fun M4 =>
  some ((1 : Int32), M4))))))
set_option maxRecDepth 20000 in
set_option maxHeartbeats 4000000 in
theorem s_X8_loanLine_155 {z : Zt} {K : Int32 → Mm → Prop} (hz : Good z RX8 cX8_loanLine 3 rX8_loanLine (some .boolean)) (hq : Ret z zI K) : ∀ (x0 : Nat) (x1 : Int32) (M : Mm), Sim z 155 [(0, .ref x0), (1, .int x1)] [] M 0 0 (f_X8_loanLine_155 x0 x1 M) K := by
  intro x0 x1 M
  unfold f_X8_loanLine_155
  refine r_aload_n hz dX8_loanLine_155 0 rfl ?_
  refine r_getR (j := 18) cl8 hz dX8_loanLine_156 (by decide) wm_5_74 rfl (fun q1 => ?_)
  refine r_sipush (v := 1207) hz dX8_loanLine_159 rfl ?_
  refine r_iload_n hz dX8_loanLine_162 1 rfl ?_
  refine r_iadd hz dX8_loanLine_163 ?_
  refine r_iload_n hz dX8_loanLine_164 1 rfl ?_
  refine r_iconst (v := 1) hz dX8_loanLine_165 rfl ?_
  refine r_iadd hz dX8_loanLine_166 ?_
  refine r_iast hz dX8_loanLine_167 ?_
  refine r_nmM (fun M2 => ?_)
  refine r_aload_n hz dX8_loanLine_168 0 rfl ?_
  refine r_getR (j := 12) cl8 hz dX8_loanLine_169 (by decide) wm_5_68 rfl (fun q3 => ?_)
  refine r_iconst (v := 0) hz dX8_loanLine_172 rfl ?_
  refine r_dup2 hz dX8_loanLine_173 rfl rfl ?_
  refine r_iald hz dX8_loanLine_174 ?_
  refine r_iconst (v := 1) hz dX8_loanLine_175 rfl ?_
  refine r_iadd hz dX8_loanLine_176 ?_
  refine r_iast hz dX8_loanLine_177 ?_
  refine r_nmM (fun M4 => ?_)
  refine r_iconst (v := 1) hz dX8_loanLine_178 rfl ?_
  exact r_zret hz hq dX8_loanLine_179 (Or.inr rfl) (Nat.le_of_ble_eq_true rfl) (Nat.le_of_ble_eq_true rfl)
def f_X8_loanLine (p0 : Nat) (M : Mm) : Option (Int32 × Mm) :=
  ck (gK M p0 = 8) (bR (gR M p0 12) fun q1 => ck (gK M q1 = 10 ∧ inb (0 : Int32) (gN M q1)) (nm (gI M q1 ((0 : Int32)).toNatClampNeg) fun v2 =>
  (if ¬ v2 = (4 : Int32) then
    ck (gK M p0 = 8) (bd (f_X8_go p0 M) fun _ M3 =>
    nm ((12 : Int32) + ((7 : Int32) * v2)) fun v4 =>
    ck (gK M3 p0 = 8) (bd (f_X8_newName p0 ((2 : Int32) + v2) M3) fun v6 M5 =>
    (if v6 = 0 then
      some ((0 : Int32), M5)
    else
      ck (gK M5 p0 = 8) (bd (f_X8_worded p0 (2603155 : Int32) (v4 + (0 : Int32)) (1 : Int32) (60 : Int32) M5) fun v8 M7 =>
      (if v8 = 0 then
        some ((0 : Int32), M7)
      else
        ck (gK M7 p0 = 8) (bd (f_X8_worded p0 (16434 : Int32) (v4 + (1 : Int32)) (1 : Int32) (999 : Int32) M7) fun v10 M9 =>
        (if v10 = 0 then
          some ((0 : Int32), M9)
        else
          ck (gK M9 p0 = 8) (bd (f_X8_worded p0 (117096942 : Int32) (v4 + (2 : Int32)) (0 : Int32) (99 : Int32) M9) fun v12 M11 =>
          (if v12 = 0 then
            some ((0 : Int32), M11)
          else
            ck (gK M11 p0 = 8) (bd (f_X8_worded p0 (26379859 : Int32) (v4 + (3 : Int32)) (1 : Int32) (20 : Int32) M11) fun v14 M13 =>
            (if v14 = 0 then
              some ((0 : Int32), M13)
            else
              ck (gK M13 p0 = 8) (bd (f_X8_plan p0 v4 M13) fun v16 M15 =>
              (if ¬ v16 = 0 then
                ck (gK M15 p0 = 8) (bR (gR M15 p0 12) fun q17 => ck (gK M15 q17 = 10 ∧ inb (v4 + (6 : Int32)) (gN M15 q17)) (nm (sI M15 q17 ((v4 + (6 : Int32))).toNatClampNeg (20 : Int32)) fun M18 =>
                ck (gK M18 p0 = 8) (bd (f_X8_is p0 (12632677 : Int32) M18) fun v20 M19 =>
                (if v20 = 0 then
                  f_X8_loanLine_155 p0 v2 M19
                else
                  ck (gK M19 p0 = 8) (bd (f_X8_worded p0 (12632677 : Int32) (v4 + (6 : Int32)) (1 : Int32) (20 : Int32) M19) fun v22 M21 =>
                  (if ¬ v22 = 0 then
                    f_X8_loanLine_155 p0 v2 M21
                  else
                    some ((0 : Int32), M21)))))))
              else
                some ((0 : Int32), M15))))))))))))))
  else
    ck (gK M p0 = 8) (bd (f_X8_bad p0 (5 : Int32) M) fun v24 M23 =>
    ck (v24 = 0 ∨ v24 = 1) (some (v24, M23))))))
set_option maxRecDepth 20000 in
set_option maxHeartbeats 4000000 in
theorem t_X8_loanLine (p0 : Nat) (M : Mm) (x : Int32) (M' : Mm) (h : f_X8_loanLine p0 M = some (x, M')) : Ctr yX8_loanLine cX8_loanLine 3 (some .boolean) rX8_loanLine (fun _ => [.ref p0]) M (zI x) M' := by
  refine ctr_of (plainFor_of_name (by decide)) (fun _ => Nat.le_of_ble_eq_true rfl) (fun z hz hin hq => ?_)
  have key : Sim z 0 [(0, .ref p0)] [] M 0 0 (f_X8_loanLine p0 M) (fun a b => a = x ∧ b = M') := by
    have hq : Ret z zI (fun a b => a = x ∧ b = M') := fun a b e => by rw [e.1, e.2]; exact hq
    unfold f_X8_loanLine
    refine r_aload_n hz dX8_loanLine_0 0 rfl ?_
    refine r_getR (j := 12) cl8 hz dX8_loanLine_1 (by decide) wm_5_68 rfl (fun q1 => ?_)
    refine r_iconst (v := 0) hz dX8_loanLine_4 rfl ?_
    refine r_iald hz dX8_loanLine_5 ?_
    refine r_nmi (fun v2 => ?_)
    refine r_istore_n (lv' := [(1, .int v2), (0, .ref p0)]) hz dX8_loanLine_6 (by decide) rfl ?_
    refine r_iload_n hz dX8_loanLine_7 0 rfl ?_
    refine r_iconst (v := 4) hz dX8_loanLine_8 rfl ?_
    refine r_icmp_ne (tgt := 18) hz dX8_loanLine_9 rfl ?_ ?_
    · refine r_aload_n hz dX8_loanLine_18 1 rfl ?_
      refine r_callVv (As := fun _ => []) cl8 hz (fun _ _ h => t_X8_go _ _ _ _ h) cal_X8_go dX8_loanLine_19 wm_5_178 wm_5_180 wm_p_44 rfl rfl (Nat.le_of_ble_eq_true rfl) ⟨(Nat.le_of_ble_eq_true rfl), (Nat.le_of_ble_eq_true rfl)⟩ ⟨(Nat.le_of_ble_eq_true rfl), (Nat.le_of_ble_eq_true rfl)⟩ (fun _ M3 => ?_)
      refine r_bipush (v := 12) hz dX8_loanLine_22 rfl ?_
      refine r_bipush (v := 7) hz dX8_loanLine_24 rfl ?_
      refine r_iload_n hz dX8_loanLine_26 0 rfl ?_
      refine r_imul hz dX8_loanLine_27 ?_
      refine r_iadd hz dX8_loanLine_28 ?_
      refine r_nmi (fun v4 => ?_)
      refine r_istore_n (lv' := [(2, .int v4), (1, .int v2), (0, .ref p0)]) hz dX8_loanLine_29 (by decide) rfl ?_
      refine r_aload_n hz dX8_loanLine_30 2 rfl ?_
      refine r_iconst (v := 2) hz dX8_loanLine_31 rfl ?_
      refine r_iload_n hz dX8_loanLine_32 1 rfl ?_
      refine r_iadd hz dX8_loanLine_33 ?_
      refine r_callVi (As := fun _ => [.int ((2 : Int32) + v2)]) cl8 hz (fun _ _ h => t_X8_newName _ _ _ _ _ h) cal_X8_newName dX8_loanLine_34 wm_5_208 wm_5_210 wm_p_50 rfl rfl (Nat.le_of_ble_eq_true rfl) ⟨(Nat.le_of_ble_eq_true rfl), (Nat.le_of_ble_eq_true rfl)⟩ ⟨(Nat.le_of_ble_eq_true rfl), (Nat.le_of_ble_eq_true rfl)⟩ (fun v6 M5 => ?_)
      refine r_if_eq (tgt := 113) hz dX8_loanLine_37 rfl ?_ ?_
      · refine r_iconst (v := 0) hz dX8_loanLine_113 rfl ?_
        exact r_zret hz hq dX8_loanLine_114 (Or.inl rfl) (Nat.le_of_ble_eq_true rfl) (Nat.le_of_ble_eq_true rfl)
      · refine r_aload_n hz dX8_loanLine_40 2 rfl ?_
        refine r_getS (v := 2603155) hz dX8_loanLine_41 (List.mem_of_getElem? (i := 1) rfl) wm_5_220 ?_
        refine r_iload_n hz dX8_loanLine_44 0 rfl ?_
        refine r_iconst (v := 0) hz dX8_loanLine_45 rfl ?_
        refine r_iadd hz dX8_loanLine_46 ?_
        refine r_iconst (v := 1) hz dX8_loanLine_47 rfl ?_
        refine r_bipush (v := 60) hz dX8_loanLine_48 rfl ?_
        refine r_callVi (As := fun _ => [.int (2603155 : Int32), .int (v4 + (0 : Int32)), .int (1 : Int32), .int (60 : Int32)]) cl8 hz (fun _ _ h => t_X8_worded _ _ _ _ _ _ _ _ h) cal_X8_worded dX8_loanLine_50 wm_6_10 wm_6_12 wm_p_54 rfl rfl (Nat.le_of_ble_eq_true rfl) ⟨(Nat.le_of_ble_eq_true rfl), (Nat.le_of_ble_eq_true rfl)⟩ ⟨(Nat.le_of_ble_eq_true rfl), (Nat.le_of_ble_eq_true rfl)⟩ (fun v8 M7 => ?_)
        refine r_if_eq (tgt := 113) hz dX8_loanLine_53 rfl ?_ ?_
        · refine r_iconst (v := 0) hz dX8_loanLine_113 rfl ?_
          exact r_zret hz hq dX8_loanLine_114 (Or.inl rfl) (Nat.le_of_ble_eq_true rfl) (Nat.le_of_ble_eq_true rfl)
        · refine r_aload_n hz dX8_loanLine_56 2 rfl ?_
          refine r_getS (v := 16434) hz dX8_loanLine_57 (List.mem_of_getElem? (i := 2) rfl) wm_5_222 ?_
          refine r_iload_n hz dX8_loanLine_60 0 rfl ?_
          refine r_iconst (v := 1) hz dX8_loanLine_61 rfl ?_
          refine r_iadd hz dX8_loanLine_62 ?_
          refine r_iconst (v := 1) hz dX8_loanLine_63 rfl ?_
          refine r_sipush (v := 999) hz dX8_loanLine_64 rfl ?_
          refine r_callVi (As := fun _ => [.int (16434 : Int32), .int (v4 + (1 : Int32)), .int (1 : Int32), .int (999 : Int32)]) cl8 hz (fun _ _ h => t_X8_worded _ _ _ _ _ _ _ _ h) cal_X8_worded dX8_loanLine_67 wm_6_10 wm_6_12 wm_p_54 rfl rfl (Nat.le_of_ble_eq_true rfl) ⟨(Nat.le_of_ble_eq_true rfl), (Nat.le_of_ble_eq_true rfl)⟩ ⟨(Nat.le_of_ble_eq_true rfl), (Nat.le_of_ble_eq_true rfl)⟩ (fun v10 M9 => ?_)
          refine r_if_eq (tgt := 113) hz dX8_loanLine_70 rfl ?_ ?_
          · refine r_iconst (v := 0) hz dX8_loanLine_113 rfl ?_
            exact r_zret hz hq dX8_loanLine_114 (Or.inl rfl) (Nat.le_of_ble_eq_true rfl) (Nat.le_of_ble_eq_true rfl)
          · refine r_aload_n hz dX8_loanLine_73 2 rfl ?_
            refine r_getS (v := 117096942) hz dX8_loanLine_74 (List.mem_of_getElem? (i := 3) rfl) wm_5_224 ?_
            refine r_iload_n hz dX8_loanLine_77 0 rfl ?_
            refine r_iconst (v := 2) hz dX8_loanLine_78 rfl ?_
            refine r_iadd hz dX8_loanLine_79 ?_
            refine r_iconst (v := 0) hz dX8_loanLine_80 rfl ?_
            refine r_bipush (v := 99) hz dX8_loanLine_81 rfl ?_
            refine r_callVi (As := fun _ => [.int (117096942 : Int32), .int (v4 + (2 : Int32)), .int (0 : Int32), .int (99 : Int32)]) cl8 hz (fun _ _ h => t_X8_worded _ _ _ _ _ _ _ _ h) cal_X8_worded dX8_loanLine_83 wm_6_10 wm_6_12 wm_p_54 rfl rfl (Nat.le_of_ble_eq_true rfl) ⟨(Nat.le_of_ble_eq_true rfl), (Nat.le_of_ble_eq_true rfl)⟩ ⟨(Nat.le_of_ble_eq_true rfl), (Nat.le_of_ble_eq_true rfl)⟩ (fun v12 M11 => ?_)
            refine r_if_eq (tgt := 113) hz dX8_loanLine_86 rfl ?_ ?_
            · refine r_iconst (v := 0) hz dX8_loanLine_113 rfl ?_
              exact r_zret hz hq dX8_loanLine_114 (Or.inl rfl) (Nat.le_of_ble_eq_true rfl) (Nat.le_of_ble_eq_true rfl)
            · refine r_aload_n hz dX8_loanLine_89 2 rfl ?_
              refine r_getS (v := 26379859) hz dX8_loanLine_90 (List.mem_of_getElem? (i := 4) rfl) wm_5_226 ?_
              refine r_iload_n hz dX8_loanLine_93 0 rfl ?_
              refine r_iconst (v := 3) hz dX8_loanLine_94 rfl ?_
              refine r_iadd hz dX8_loanLine_95 ?_
              refine r_iconst (v := 1) hz dX8_loanLine_96 rfl ?_
              refine r_bipush (v := 20) hz dX8_loanLine_97 rfl ?_
              refine r_callVi (As := fun _ => [.int (26379859 : Int32), .int (v4 + (3 : Int32)), .int (1 : Int32), .int (20 : Int32)]) cl8 hz (fun _ _ h => t_X8_worded _ _ _ _ _ _ _ _ h) cal_X8_worded dX8_loanLine_99 wm_6_10 wm_6_12 wm_p_54 rfl rfl (Nat.le_of_ble_eq_true rfl) ⟨(Nat.le_of_ble_eq_true rfl), (Nat.le_of_ble_eq_true rfl)⟩ ⟨(Nat.le_of_ble_eq_true rfl), (Nat.le_of_ble_eq_true rfl)⟩ (fun v14 M13 => ?_)
              refine r_if_eq (tgt := 113) hz dX8_loanLine_102 rfl ?_ ?_
              · refine r_iconst (v := 0) hz dX8_loanLine_113 rfl ?_
                exact r_zret hz hq dX8_loanLine_114 (Or.inl rfl) (Nat.le_of_ble_eq_true rfl) (Nat.le_of_ble_eq_true rfl)
              · refine r_aload_n hz dX8_loanLine_105 2 rfl ?_
                refine r_iload_n hz dX8_loanLine_106 0 rfl ?_
                refine r_callVi (As := fun _ => [.int v4]) cl8 hz (fun _ _ h => t_X8_plan _ _ _ _ _ h) cal_X8_plan dX8_loanLine_107 wm_6_26 wm_6_28 wm_p_58 rfl rfl (Nat.le_of_ble_eq_true rfl) ⟨(Nat.le_of_ble_eq_true rfl), (Nat.le_of_ble_eq_true rfl)⟩ ⟨(Nat.le_of_ble_eq_true rfl), (Nat.le_of_ble_eq_true rfl)⟩ (fun v16 M15 => ?_)
                refine r_if_ne (tgt := 115) hz dX8_loanLine_110 rfl ?_ ?_
                · refine r_aload_n hz dX8_loanLine_115 2 rfl ?_
                  refine r_getR (j := 12) cl8 hz dX8_loanLine_116 (by decide) wm_5_68 rfl (fun q17 => ?_)
                  refine r_iload_n hz dX8_loanLine_119 0 rfl ?_
                  refine r_bipush (v := 6) hz dX8_loanLine_120 rfl ?_
                  refine r_iadd hz dX8_loanLine_122 ?_
                  refine r_bipush (v := 20) hz dX8_loanLine_123 rfl ?_
                  refine r_iast hz dX8_loanLine_125 ?_
                  refine r_nmM (fun M18 => ?_)
                  refine r_aload_n hz dX8_loanLine_126 2 rfl ?_
                  refine r_getS (v := 12632677) hz dX8_loanLine_127 (List.mem_of_getElem? (i := 8) rfl) wm_5_234 ?_
                  refine r_callVi (As := fun _ => [.int (12632677 : Int32)]) cl8 hz (fun _ _ h => t_X8_is _ _ _ _ _ h) cal_X8_is dX8_loanLine_130 wm_5_196 wm_5_198 wm_p_47 rfl rfl (Nat.le_of_ble_eq_true rfl) ⟨(Nat.le_of_ble_eq_true rfl), (Nat.le_of_ble_eq_true rfl)⟩ ⟨(Nat.le_of_ble_eq_true rfl), (Nat.le_of_ble_eq_true rfl)⟩ (fun v20 M19 => ?_)
                  refine r_if_eq (tgt := 155) hz dX8_loanLine_133 rfl ?_ ?_
                  · refine r_sub [2, 1] rfl ?_
                    exact s_X8_loanLine_155 hz hq p0 v2 M19
                  · refine r_aload_n hz dX8_loanLine_136 2 rfl ?_
                    refine r_getS (v := 12632677) hz dX8_loanLine_137 (List.mem_of_getElem? (i := 8) rfl) wm_5_234 ?_
                    refine r_iload_n hz dX8_loanLine_140 0 rfl ?_
                    refine r_bipush (v := 6) hz dX8_loanLine_141 rfl ?_
                    refine r_iadd hz dX8_loanLine_143 ?_
                    refine r_iconst (v := 1) hz dX8_loanLine_144 rfl ?_
                    refine r_bipush (v := 20) hz dX8_loanLine_145 rfl ?_
                    refine r_callVi (As := fun _ => [.int (12632677 : Int32), .int (v4 + (6 : Int32)), .int (1 : Int32), .int (20 : Int32)]) cl8 hz (fun _ _ h => t_X8_worded _ _ _ _ _ _ _ _ h) cal_X8_worded dX8_loanLine_147 wm_6_10 wm_6_12 wm_p_54 rfl rfl (Nat.le_of_ble_eq_true rfl) ⟨(Nat.le_of_ble_eq_true rfl), (Nat.le_of_ble_eq_true rfl)⟩ ⟨(Nat.le_of_ble_eq_true rfl), (Nat.le_of_ble_eq_true rfl)⟩ (fun v22 M21 => ?_)
                    refine r_if_ne (tgt := 155) hz dX8_loanLine_150 rfl ?_ ?_
                    · refine r_sub [2, 1] rfl ?_
                      exact s_X8_loanLine_155 hz hq p0 v2 M21
                    · refine r_iconst (v := 0) hz dX8_loanLine_153 rfl ?_
                      exact r_zret hz hq dX8_loanLine_154 (Or.inl rfl) (Nat.le_of_ble_eq_true rfl) (Nat.le_of_ble_eq_true rfl)
                · refine r_iconst (v := 0) hz dX8_loanLine_113 rfl ?_
                  exact r_zret hz hq dX8_loanLine_114 (Or.inl rfl) (Nat.le_of_ble_eq_true rfl) (Nat.le_of_ble_eq_true rfl)
    · refine r_aload_n hz dX8_loanLine_12 1 rfl ?_
      refine r_iconst (v := 5) hz dX8_loanLine_13 rfl ?_
      refine r_callVi (As := fun _ => [.int (5 : Int32)]) cl8 hz (fun _ _ h => t_X8_bad _ _ _ _ _ h) cal_X8_bad dX8_loanLine_14 wm_5_204 wm_5_206 wm_p_49 rfl rfl (Nat.le_of_ble_eq_true rfl) ⟨(Nat.le_of_ble_eq_true rfl), (Nat.le_of_ble_eq_true rfl)⟩ ⟨(Nat.le_of_ble_eq_true rfl), (Nat.le_of_ble_eq_true rfl)⟩ (fun v24 M23 => ?_)
      refine r_ck (fun h25 => ?_)
      exact r_zret hz hq dX8_loanLine_17 h25 (Nat.le_of_ble_eq_true rfl) (Nat.le_of_ble_eq_true rfl)
  exact key x M' h ⟨rfl, rfl⟩
theorem dX8_holderLine_0 : decode cX8_holderLine 0 = .ok (.aload_n 0, 1) := by decide +kernel
theorem dX8_holderLine_1 : decode cX8_holderLine 1 = .ok (.getfield 17, 3) := by decide +kernel
theorem dX8_holderLine_4 : decode cX8_holderLine 4 = .ok (.iconst 1, 1) := by decide +kernel
theorem dX8_holderLine_5 : decode cX8_holderLine 5 = .ok (.iaload, 1) := by decide +kernel
theorem dX8_holderLine_6 : decode cX8_holderLine 6 = .ok (.istore_n 1, 1) := by decide +kernel
theorem dX8_holderLine_7 : decode cX8_holderLine 7 = .ok (.iload_n 1, 1) := by decide +kernel
theorem dX8_holderLine_8 : decode cX8_holderLine 8 = .ok (.bipush 6, 2) := by decide +kernel
theorem dX8_holderLine_10 : decode cX8_holderLine 10 = .ok (.if_icmp .ne 9, 3) := by decide +kernel
theorem dX8_holderLine_13 : decode cX8_holderLine 13 = .ok (.aload_n 0, 1) := by decide +kernel
theorem dX8_holderLine_14 : decode cX8_holderLine 14 = .ok (.iconst 5, 1) := by decide +kernel
theorem dX8_holderLine_15 : decode cX8_holderLine 15 = .ok (.invokevirtual 144, 3) := by decide +kernel
theorem dX8_holderLine_18 : decode cX8_holderLine 18 = .ok (.ireturn, 1) := by decide +kernel
theorem dX8_holderLine_19 : decode cX8_holderLine 19 = .ok (.aload_n 0, 1) := by decide +kernel
theorem dX8_holderLine_20 : decode cX8_holderLine 20 = .ok (.invokevirtual 147, 3) := by decide +kernel
theorem dX8_holderLine_23 : decode cX8_holderLine 23 = .ok (.aload_n 0, 1) := by decide +kernel
theorem dX8_holderLine_24 : decode cX8_holderLine 24 = .ok (.bipush 6, 2) := by decide +kernel
theorem dX8_holderLine_26 : decode cX8_holderLine 26 = .ok (.iload_n 1, 1) := by decide +kernel
theorem dX8_holderLine_27 : decode cX8_holderLine 27 = .ok (.iadd, 1) := by decide +kernel
theorem dX8_holderLine_28 : decode cX8_holderLine 28 = .ok (.invokevirtual 171, 3) := by decide +kernel
theorem dX8_holderLine_31 : decode cX8_holderLine 31 = .ok (.ifCond .eq 23, 3) := by decide +kernel
theorem dX8_holderLine_34 : decode cX8_holderLine 34 = .ok (.aload_n 0, 1) := by decide +kernel
theorem dX8_holderLine_35 : decode cX8_holderLine 35 = .ok (.getstatic 125, 3) := by decide +kernel
theorem dX8_holderLine_38 : decode cX8_holderLine 38 = .ok (.invokevirtual 164, 3) := by decide +kernel
theorem dX8_holderLine_41 : decode cX8_holderLine 41 = .ok (.ifCond .eq 13, 3) := by decide +kernel
theorem dX8_holderLine_44 : decode cX8_holderLine 44 = .ok (.aload_n 0, 1) := by decide +kernel
theorem dX8_holderLine_45 : decode cX8_holderLine 45 = .ok (.iconst 0, 1) := by decide +kernel
theorem dX8_holderLine_46 : decode cX8_holderLine 46 = .ok (.ldc 170, 2) := by decide +kernel
theorem dX8_holderLine_48 : decode cX8_holderLine 48 = .ok (.invokevirtual 167, 3) := by decide +kernel
theorem dX8_holderLine_51 : decode cX8_holderLine 51 = .ok (.ifCond .ne 5, 3) := by decide +kernel
theorem dX8_holderLine_54 : decode cX8_holderLine 54 = .ok (.iconst 0, 1) := by decide +kernel
theorem dX8_holderLine_55 : decode cX8_holderLine 55 = .ok (.ireturn, 1) := by decide +kernel
theorem dX8_holderLine_56 : decode cX8_holderLine 56 = .ok (.aload_n 0, 1) := by decide +kernel
theorem dX8_holderLine_57 : decode cX8_holderLine 57 = .ok (.getfield 23, 3) := by decide +kernel
theorem dX8_holderLine_60 : decode cX8_holderLine 60 = .ok (.sipush 1200, 3) := by decide +kernel
theorem dX8_holderLine_63 : decode cX8_holderLine 63 = .ok (.iload_n 1, 1) := by decide +kernel
theorem dX8_holderLine_64 : decode cX8_holderLine 64 = .ok (.iadd, 1) := by decide +kernel
theorem dX8_holderLine_65 : decode cX8_holderLine 65 = .ok (.aload_n 0, 1) := by decide +kernel
theorem dX8_holderLine_66 : decode cX8_holderLine 66 = .ok (.getfield 154, 3) := by decide +kernel
theorem dX8_holderLine_69 : decode cX8_holderLine 69 = .ok (.iastore, 1) := by decide +kernel
theorem dX8_holderLine_70 : decode cX8_holderLine 70 = .ok (.aload_n 0, 1) := by decide +kernel
theorem dX8_holderLine_71 : decode cX8_holderLine 71 = .ok (.getfield 17, 3) := by decide +kernel
theorem dX8_holderLine_74 : decode cX8_holderLine 74 = .ok (.iconst 1, 1) := by decide +kernel
theorem dX8_holderLine_75 : decode cX8_holderLine 75 = .ok (.dup2, 1) := by decide +kernel
theorem dX8_holderLine_76 : decode cX8_holderLine 76 = .ok (.iaload, 1) := by decide +kernel
theorem dX8_holderLine_77 : decode cX8_holderLine 77 = .ok (.iconst 1, 1) := by decide +kernel
theorem dX8_holderLine_78 : decode cX8_holderLine 78 = .ok (.iadd, 1) := by decide +kernel
theorem dX8_holderLine_79 : decode cX8_holderLine 79 = .ok (.iastore, 1) := by decide +kernel
theorem dX8_holderLine_80 : decode cX8_holderLine 80 = .ok (.iconst 1, 1) := by decide +kernel
theorem dX8_holderLine_81 : decode cX8_holderLine 81 = .ok (.ireturn, 1) := by decide +kernel
abbrev rX8_holderLine : Room := { frames := 4, cells := 0, slots := 0, locals := 82 }
theorem cal_X8_holderLine : CalOk yX8_holderLine cX8_holderLine 2 (some .boolean) 0 := ⟨wm_6_34, wm_1_9, by decide, by decide, by decide +kernel⟩
def f_X8_holderLine (p0 : Nat) (M : Mm) : Option (Int32 × Mm) :=
  ck (gK M p0 = 8) (bR (gR M p0 12) fun q1 => ck (gK M q1 = 10 ∧ inb (1 : Int32) (gN M q1)) (nm (gI M q1 ((1 : Int32)).toNatClampNeg) fun v2 =>
  (if ¬ v2 = (6 : Int32) then
    ck (gK M p0 = 8) (bd (f_X8_go p0 M) fun _ M3 =>
    ck (gK M3 p0 = 8) (bd (f_X8_newName p0 ((6 : Int32) + v2) M3) fun v5 M4 =>
    (if v5 = 0 then
      some ((0 : Int32), M4)
    else
      ck (gK M4 p0 = 8) (bd (f_X8_takes p0 (99944 : Int32) M4) fun v7 M6 =>
      (if v7 = 0 then
        some ((0 : Int32), M6)
      else
        ck (gK M6 p0 = 8) (bd (f_X8_number p0 (0 : Int32) (99999 : Int32) M6) fun v9 M8 =>
        (if ¬ v9 = 0 then
          ck (gK M8 p0 = 8) (bR (gR M8 p0 18) fun q10 => ck (gK M8 p0 = 8) (ck (gK M8 q10 = 10 ∧ inb ((1200 : Int32) + v2) (gN M8 q10)) (nm (sI M8 q10 (((1200 : Int32) + v2)).toNatClampNeg (gI M8 p0 10)) fun M11 =>
          ck (gK M11 p0 = 8) (bR (gR M11 p0 12) fun q12 => ck (gK M11 q12 = 10 ∧ inb (1 : Int32) (gN M11 q12)) (ck (gK M11 q12 = 10 ∧ inb (1 : Int32) (gN M11 q12)) (nm (sI M11 q12 ((1 : Int32)).toNatClampNeg ((gI M11 q12 ((1 : Int32)).toNatClampNeg) + (1 : Int32))) fun M13 =>
          some ((1 : Int32), M13)))))))
        else
          some ((0 : Int32), M8))))))))
  else
    ck (gK M p0 = 8) (bd (f_X8_bad p0 (5 : Int32) M) fun v15 M14 =>
    ck (v15 = 0 ∨ v15 = 1) (some (v15, M14))))))
set_option maxRecDepth 20000 in
set_option maxHeartbeats 4000000 in
theorem t_X8_holderLine (p0 : Nat) (M : Mm) (x : Int32) (M' : Mm) (h : f_X8_holderLine p0 M = some (x, M')) : Ctr yX8_holderLine cX8_holderLine 2 (some .boolean) rX8_holderLine (fun _ => [.ref p0]) M (zI x) M' := by
  refine ctr_of (plainFor_of_name (by decide)) (fun _ => Nat.le_of_ble_eq_true rfl) (fun z hz hin hq => ?_)
  have key : Sim z 0 [(0, .ref p0)] [] M 0 0 (f_X8_holderLine p0 M) (fun a b => a = x ∧ b = M') := by
    have hq : Ret z zI (fun a b => a = x ∧ b = M') := fun a b e => by rw [e.1, e.2]; exact hq
    unfold f_X8_holderLine
    refine r_aload_n hz dX8_holderLine_0 0 rfl ?_
    refine r_getR (j := 12) cl8 hz dX8_holderLine_1 (by decide) wm_5_68 rfl (fun q1 => ?_)
    refine r_iconst (v := 1) hz dX8_holderLine_4 rfl ?_
    refine r_iald hz dX8_holderLine_5 ?_
    refine r_nmi (fun v2 => ?_)
    refine r_istore_n (lv' := [(1, .int v2), (0, .ref p0)]) hz dX8_holderLine_6 (by decide) rfl ?_
    refine r_iload_n hz dX8_holderLine_7 0 rfl ?_
    refine r_bipush (v := 6) hz dX8_holderLine_8 rfl ?_
    refine r_icmp_ne (tgt := 19) hz dX8_holderLine_10 rfl ?_ ?_
    · refine r_aload_n hz dX8_holderLine_19 1 rfl ?_
      refine r_callVv (As := fun _ => []) cl8 hz (fun _ _ h => t_X8_go _ _ _ _ h) cal_X8_go dX8_holderLine_20 wm_5_178 wm_5_180 wm_p_44 rfl rfl (Nat.le_of_ble_eq_true rfl) ⟨(Nat.le_of_ble_eq_true rfl), (Nat.le_of_ble_eq_true rfl)⟩ ⟨(Nat.le_of_ble_eq_true rfl), (Nat.le_of_ble_eq_true rfl)⟩ (fun _ M3 => ?_)
      refine r_aload_n hz dX8_holderLine_23 1 rfl ?_
      refine r_bipush (v := 6) hz dX8_holderLine_24 rfl ?_
      refine r_iload_n hz dX8_holderLine_26 0 rfl ?_
      refine r_iadd hz dX8_holderLine_27 ?_
      refine r_callVi (As := fun _ => [.int ((6 : Int32) + v2)]) cl8 hz (fun _ _ h => t_X8_newName _ _ _ _ _ h) cal_X8_newName dX8_holderLine_28 wm_5_208 wm_5_210 wm_p_50 rfl rfl (Nat.le_of_ble_eq_true rfl) ⟨(Nat.le_of_ble_eq_true rfl), (Nat.le_of_ble_eq_true rfl)⟩ ⟨(Nat.le_of_ble_eq_true rfl), (Nat.le_of_ble_eq_true rfl)⟩ (fun v5 M4 => ?_)
      refine r_if_eq (tgt := 54) hz dX8_holderLine_31 rfl ?_ ?_
      · refine r_iconst (v := 0) hz dX8_holderLine_54 rfl ?_
        exact r_zret hz hq dX8_holderLine_55 (Or.inl rfl) (Nat.le_of_ble_eq_true rfl) (Nat.le_of_ble_eq_true rfl)
      · refine r_aload_n hz dX8_holderLine_34 1 rfl ?_
        refine r_getS (v := 99944) hz dX8_holderLine_35 (List.mem_of_getElem? (i := 10) rfl) wm_5_238 ?_
        refine r_callVi (As := fun _ => [.int (99944 : Int32)]) cl8 hz (fun _ _ h => t_X8_takes _ _ _ _ _ h) cal_X8_takes dX8_holderLine_38 wm_6_14 wm_6_16 wm_p_55 rfl rfl (Nat.le_of_ble_eq_true rfl) ⟨(Nat.le_of_ble_eq_true rfl), (Nat.le_of_ble_eq_true rfl)⟩ ⟨(Nat.le_of_ble_eq_true rfl), (Nat.le_of_ble_eq_true rfl)⟩ (fun v7 M6 => ?_)
        refine r_if_eq (tgt := 54) hz dX8_holderLine_41 rfl ?_ ?_
        · refine r_iconst (v := 0) hz dX8_holderLine_54 rfl ?_
          exact r_zret hz hq dX8_holderLine_55 (Or.inl rfl) (Nat.le_of_ble_eq_true rfl) (Nat.le_of_ble_eq_true rfl)
        · refine r_aload_n hz dX8_holderLine_44 1 rfl ?_
          refine r_iconst (v := 0) hz dX8_holderLine_45 rfl ?_
          refine r_ldc (v := 99999) hz dX8_holderLine_46 wm_6_30 ?_
          refine r_callVi (As := fun _ => [.int (0 : Int32), .int (99999 : Int32)]) cl8 hz (fun _ _ h => t_X8_number _ _ _ _ _ _ h) cal_X8_number dX8_holderLine_48 wm_6_18 wm_6_20 wm_p_56 rfl rfl (Nat.le_of_ble_eq_true rfl) ⟨(Nat.le_of_ble_eq_true rfl), (Nat.le_of_ble_eq_true rfl)⟩ ⟨(Nat.le_of_ble_eq_true rfl), (Nat.le_of_ble_eq_true rfl)⟩ (fun v9 M8 => ?_)
          refine r_if_ne (tgt := 56) hz dX8_holderLine_51 rfl ?_ ?_
          · refine r_aload_n hz dX8_holderLine_56 1 rfl ?_
            refine r_getR (j := 18) cl8 hz dX8_holderLine_57 (by decide) wm_5_74 rfl (fun q10 => ?_)
            refine r_sipush (v := 1200) hz dX8_holderLine_60 rfl ?_
            refine r_iload_n hz dX8_holderLine_63 0 rfl ?_
            refine r_iadd hz dX8_holderLine_64 ?_
            refine r_aload_n hz dX8_holderLine_65 1 rfl ?_
            refine r_getI (j := 10) cl8 hz dX8_holderLine_66 (by decide) wm_5_66 rfl ?_
            refine r_iast hz dX8_holderLine_69 ?_
            refine r_nmM (fun M11 => ?_)
            refine r_aload_n hz dX8_holderLine_70 1 rfl ?_
            refine r_getR (j := 12) cl8 hz dX8_holderLine_71 (by decide) wm_5_68 rfl (fun q12 => ?_)
            refine r_iconst (v := 1) hz dX8_holderLine_74 rfl ?_
            refine r_dup2 hz dX8_holderLine_75 rfl rfl ?_
            refine r_iald hz dX8_holderLine_76 ?_
            refine r_iconst (v := 1) hz dX8_holderLine_77 rfl ?_
            refine r_iadd hz dX8_holderLine_78 ?_
            refine r_iast hz dX8_holderLine_79 ?_
            refine r_nmM (fun M13 => ?_)
            refine r_iconst (v := 1) hz dX8_holderLine_80 rfl ?_
            exact r_zret hz hq dX8_holderLine_81 (Or.inr rfl) (Nat.le_of_ble_eq_true rfl) (Nat.le_of_ble_eq_true rfl)
          · refine r_iconst (v := 0) hz dX8_holderLine_54 rfl ?_
            exact r_zret hz hq dX8_holderLine_55 (Or.inl rfl) (Nat.le_of_ble_eq_true rfl) (Nat.le_of_ble_eq_true rfl)
    · refine r_aload_n hz dX8_holderLine_13 1 rfl ?_
      refine r_iconst (v := 5) hz dX8_holderLine_14 rfl ?_
      refine r_callVi (As := fun _ => [.int (5 : Int32)]) cl8 hz (fun _ _ h => t_X8_bad _ _ _ _ _ h) cal_X8_bad dX8_holderLine_15 wm_5_204 wm_5_206 wm_p_49 rfl rfl (Nat.le_of_ble_eq_true rfl) ⟨(Nat.le_of_ble_eq_true rfl), (Nat.le_of_ble_eq_true rfl)⟩ ⟨(Nat.le_of_ble_eq_true rfl), (Nat.le_of_ble_eq_true rfl)⟩ (fun v15 M14 => ?_)
      refine r_ck (fun h16 => ?_)
      exact r_zret hz hq dX8_holderLine_18 h16 (Nat.le_of_ble_eq_true rfl) (Nat.le_of_ble_eq_true rfl)
  exact key x M' h ⟨rfl, rfl⟩
theorem dX8_holdsLine_0 : decode cX8_holdsLine 0 = .ok (.aload_n 0, 1) := by decide +kernel
theorem dX8_holdsLine_1 : decode cX8_holdsLine 1 = .ok (.getfield 181, 3) := by decide +kernel
theorem dX8_holdsLine_4 : decode cX8_holdsLine 4 = .ok (.bipush 20, 2) := by decide +kernel
theorem dX8_holdsLine_6 : decode cX8_holdsLine 6 = .ok (.if_icmp .ne 9, 3) := by decide +kernel
theorem dX8_holdsLine_9 : decode cX8_holdsLine 9 = .ok (.aload_n 0, 1) := by decide +kernel
theorem dX8_holdsLine_10 : decode cX8_holdsLine 10 = .ok (.iconst 5, 1) := by decide +kernel
theorem dX8_holdsLine_11 : decode cX8_holdsLine 11 = .ok (.invokevirtual 144, 3) := by decide +kernel
theorem dX8_holdsLine_14 : decode cX8_holdsLine 14 = .ok (.ireturn, 1) := by decide +kernel
theorem dX8_holdsLine_15 : decode cX8_holdsLine 15 = .ok (.aload_n 0, 1) := by decide +kernel
theorem dX8_holdsLine_16 : decode cX8_holdsLine 16 = .ok (.invokevirtual 147, 3) := by decide +kernel
theorem dX8_holdsLine_19 : decode cX8_holdsLine 19 = .ok (.aload_n 0, 1) := by decide +kernel
theorem dX8_holdsLine_20 : decode cX8_holdsLine 20 = .ok (.iconst 1, 1) := by decide +kernel
theorem dX8_holdsLine_21 : decode cX8_holdsLine 21 = .ok (.invokevirtual 184, 3) := by decide +kernel
theorem dX8_holdsLine_24 : decode cX8_holdsLine 24 = .ok (.ifCond .ne 5, 3) := by decide +kernel
theorem dX8_holdsLine_27 : decode cX8_holdsLine 27 = .ok (.iconst 0, 1) := by decide +kernel
theorem dX8_holdsLine_28 : decode cX8_holdsLine 28 = .ok (.ireturn, 1) := by decide +kernel
theorem dX8_holdsLine_29 : decode cX8_holdsLine 29 = .ok (.aload_n 0, 1) := by decide +kernel
theorem dX8_holdsLine_30 : decode cX8_holdsLine 30 = .ok (.getfield 154, 3) := by decide +kernel
theorem dX8_holdsLine_33 : decode cX8_holdsLine 33 = .ok (.istore_n 1, 1) := by decide +kernel
theorem dX8_holdsLine_34 : decode cX8_holdsLine 34 = .ok (.aload_n 0, 1) := by decide +kernel
theorem dX8_holdsLine_35 : decode cX8_holdsLine 35 = .ok (.iconst 0, 1) := by decide +kernel
theorem dX8_holdsLine_36 : decode cX8_holdsLine 36 = .ok (.invokevirtual 184, 3) := by decide +kernel
theorem dX8_holdsLine_39 : decode cX8_holdsLine 39 = .ok (.ifCond .ne 5, 3) := by decide +kernel
theorem dX8_holdsLine_42 : decode cX8_holdsLine 42 = .ok (.iconst 0, 1) := by decide +kernel
theorem dX8_holdsLine_43 : decode cX8_holdsLine 43 = .ok (.ireturn, 1) := by decide +kernel
theorem dX8_holdsLine_44 : decode cX8_holdsLine 44 = .ok (.aload_n 0, 1) := by decide +kernel
theorem dX8_holdsLine_45 : decode cX8_holdsLine 45 = .ok (.getfield 154, 3) := by decide +kernel
theorem dX8_holdsLine_48 : decode cX8_holdsLine 48 = .ok (.istore_n 2, 1) := by decide +kernel
theorem dX8_holdsLine_49 : decode cX8_holdsLine 49 = .ok (.aload_n 0, 1) := by decide +kernel
theorem dX8_holdsLine_50 : decode cX8_holdsLine 50 = .ok (.getfield 17, 3) := by decide +kernel
theorem dX8_holdsLine_53 : decode cX8_holdsLine 53 = .ok (.bipush 12, 2) := by decide +kernel
theorem dX8_holdsLine_55 : decode cX8_holdsLine 55 = .ok (.bipush 7, 2) := by decide +kernel
theorem dX8_holdsLine_57 : decode cX8_holdsLine 57 = .ok (.iload_n 2, 1) := by decide +kernel
theorem dX8_holdsLine_58 : decode cX8_holdsLine 58 = .ok (.imul, 1) := by decide +kernel
theorem dX8_holdsLine_59 : decode cX8_holdsLine 59 = .ok (.iadd, 1) := by decide +kernel
theorem dX8_holdsLine_60 : decode cX8_holdsLine 60 = .ok (.iconst 0, 1) := by decide +kernel
theorem dX8_holdsLine_61 : decode cX8_holdsLine 61 = .ok (.iadd, 1) := by decide +kernel
theorem dX8_holdsLine_62 : decode cX8_holdsLine 62 = .ok (.iaload, 1) := by decide +kernel
theorem dX8_holdsLine_63 : decode cX8_holdsLine 63 = .ok (.istore_n 3, 1) := by decide +kernel
theorem dX8_holdsLine_64 : decode cX8_holdsLine 64 = .ok (.aload_n 0, 1) := by decide +kernel
theorem dX8_holdsLine_65 : decode cX8_holdsLine 65 = .ok (.iconst 1, 1) := by decide +kernel
theorem dX8_holdsLine_66 : decode cX8_holdsLine 66 = .ok (.iload_n 3, 1) := by decide +kernel
theorem dX8_holdsLine_67 : decode cX8_holdsLine 67 = .ok (.invokevirtual 167, 3) := by decide +kernel
theorem dX8_holdsLine_70 : decode cX8_holdsLine 70 = .ok (.ifCond .ne 5, 3) := by decide +kernel
theorem dX8_holdsLine_73 : decode cX8_holdsLine 73 = .ok (.iconst 0, 1) := by decide +kernel
theorem dX8_holdsLine_74 : decode cX8_holdsLine 74 = .ok (.ireturn, 1) := by decide +kernel
theorem dX8_holdsLine_75 : decode cX8_holdsLine 75 = .ok (.aload_n 0, 1) := by decide +kernel
theorem dX8_holdsLine_76 : decode cX8_holdsLine 76 = .ok (.getfield 154, 3) := by decide +kernel
theorem dX8_holdsLine_79 : decode cX8_holdsLine 79 = .ok (.istore 4, 2) := by decide +kernel
theorem dX8_holdsLine_81 : decode cX8_holdsLine 81 = .ok (.aload_n 0, 1) := by decide +kernel
theorem dX8_holdsLine_82 : decode cX8_holdsLine 82 = .ok (.iload 4, 2) := by decide +kernel
theorem dX8_holdsLine_84 : decode cX8_holdsLine 84 = .ok (.iload_n 3, 1) := by decide +kernel
theorem dX8_holdsLine_85 : decode cX8_holdsLine 85 = .ok (.invokevirtual 150, 3) := by decide +kernel
theorem dX8_holdsLine_88 : decode cX8_holdsLine 88 = .ok (.ifCond .ne 5, 3) := by decide +kernel
theorem dX8_holdsLine_91 : decode cX8_holdsLine 91 = .ok (.iconst 0, 1) := by decide +kernel
theorem dX8_holdsLine_92 : decode cX8_holdsLine 92 = .ok (.ireturn, 1) := by decide +kernel
theorem dX8_holdsLine_93 : decode cX8_holdsLine 93 = .ok (.aload_n 0, 1) := by decide +kernel
theorem dX8_holdsLine_94 : decode cX8_holdsLine 94 = .ok (.getfield 70, 3) := by decide +kernel
theorem dX8_holdsLine_97 : decode cX8_holdsLine 97 = .ok (.istore 5, 2) := by decide +kernel
theorem dX8_holdsLine_99 : decode cX8_holdsLine 99 = .ok (.iload 4, 2) := by decide +kernel
theorem dX8_holdsLine_101 : decode cX8_holdsLine 101 = .ok (.istore 6, 2) := by decide +kernel
theorem dX8_holdsLine_103 : decode cX8_holdsLine 103 = .ok (.iload 6, 2) := by decide +kernel
theorem dX8_holdsLine_105 : decode cX8_holdsLine 105 = .ok (.iload 5, 2) := by decide +kernel
theorem dX8_holdsLine_107 : decode cX8_holdsLine 107 = .ok (.if_icmp .gt 36, 3) := by decide +kernel
theorem dX8_holdsLine_110 : decode cX8_holdsLine 110 = .ok (.aload_n 0, 1) := by decide +kernel
theorem dX8_holdsLine_111 : decode cX8_holdsLine 111 = .ok (.getfield 23, 3) := by decide +kernel
theorem dX8_holdsLine_114 : decode cX8_holdsLine 114 = .ok (.sipush 240, 3) := by decide +kernel
theorem dX8_holdsLine_117 : decode cX8_holdsLine 117 = .ok (.bipush 60, 2) := by decide +kernel
theorem dX8_holdsLine_119 : decode cX8_holdsLine 119 = .ok (.iload_n 2, 1) := by decide +kernel
theorem dX8_holdsLine_120 : decode cX8_holdsLine 120 = .ok (.imul, 1) := by decide +kernel
theorem dX8_holdsLine_121 : decode cX8_holdsLine 121 = .ok (.iadd, 1) := by decide +kernel
theorem dX8_holdsLine_122 : decode cX8_holdsLine 122 = .ok (.iload 6, 2) := by decide +kernel
theorem dX8_holdsLine_124 : decode cX8_holdsLine 124 = .ok (.iadd, 1) := by decide +kernel
theorem dX8_holdsLine_125 : decode cX8_holdsLine 125 = .ok (.iconst 1, 1) := by decide +kernel
theorem dX8_holdsLine_126 : decode cX8_holdsLine 126 = .ok (.isub, 1) := by decide +kernel
theorem dX8_holdsLine_127 : decode cX8_holdsLine 127 = .ok (.iaload, 1) := by decide +kernel
theorem dX8_holdsLine_128 : decode cX8_holdsLine 128 = .ok (.ifCond .le 9, 3) := by decide +kernel
theorem dX8_holdsLine_131 : decode cX8_holdsLine 131 = .ok (.aload_n 0, 1) := by decide +kernel
theorem dX8_holdsLine_132 : decode cX8_holdsLine 132 = .ok (.iconst 2, 1) := by decide +kernel
theorem dX8_holdsLine_133 : decode cX8_holdsLine 133 = .ok (.invokevirtual 144, 3) := by decide +kernel
theorem dX8_holdsLine_136 : decode cX8_holdsLine 136 = .ok (.ireturn, 1) := by decide +kernel
theorem dX8_holdsLine_137 : decode cX8_holdsLine 137 = .ok (.iinc 6 1, 3) := by decide +kernel
theorem dX8_holdsLine_140 : decode cX8_holdsLine 140 = .ok (.goto (-37), 3) := by decide +kernel
theorem dX8_holdsLine_143 : decode cX8_holdsLine 143 = .ok (.iload 4, 2) := by decide +kernel
theorem dX8_holdsLine_145 : decode cX8_holdsLine 145 = .ok (.istore 6, 2) := by decide +kernel
theorem dX8_holdsLine_147 : decode cX8_holdsLine 147 = .ok (.iload 6, 2) := by decide +kernel
theorem dX8_holdsLine_149 : decode cX8_holdsLine 149 = .ok (.iload 5, 2) := by decide +kernel
theorem dX8_holdsLine_151 : decode cX8_holdsLine 151 = .ok (.if_icmp .gt 30, 3) := by decide +kernel
theorem dX8_holdsLine_154 : decode cX8_holdsLine 154 = .ok (.aload_n 0, 1) := by decide +kernel
theorem dX8_holdsLine_155 : decode cX8_holdsLine 155 = .ok (.getfield 23, 3) := by decide +kernel
theorem dX8_holdsLine_158 : decode cX8_holdsLine 158 = .ok (.sipush 240, 3) := by decide +kernel
theorem dX8_holdsLine_161 : decode cX8_holdsLine 161 = .ok (.bipush 60, 2) := by decide +kernel
theorem dX8_holdsLine_163 : decode cX8_holdsLine 163 = .ok (.iload_n 2, 1) := by decide +kernel
theorem dX8_holdsLine_164 : decode cX8_holdsLine 164 = .ok (.imul, 1) := by decide +kernel
theorem dX8_holdsLine_165 : decode cX8_holdsLine 165 = .ok (.iadd, 1) := by decide +kernel
theorem dX8_holdsLine_166 : decode cX8_holdsLine 166 = .ok (.iload 6, 2) := by decide +kernel
theorem dX8_holdsLine_168 : decode cX8_holdsLine 168 = .ok (.iadd, 1) := by decide +kernel
theorem dX8_holdsLine_169 : decode cX8_holdsLine 169 = .ok (.iconst 1, 1) := by decide +kernel
theorem dX8_holdsLine_170 : decode cX8_holdsLine 170 = .ok (.isub, 1) := by decide +kernel
theorem dX8_holdsLine_171 : decode cX8_holdsLine 171 = .ok (.iload_n 1, 1) := by decide +kernel
theorem dX8_holdsLine_172 : decode cX8_holdsLine 172 = .ok (.iconst 1, 1) := by decide +kernel
theorem dX8_holdsLine_173 : decode cX8_holdsLine 173 = .ok (.iadd, 1) := by decide +kernel
theorem dX8_holdsLine_174 : decode cX8_holdsLine 174 = .ok (.iastore, 1) := by decide +kernel
theorem dX8_holdsLine_175 : decode cX8_holdsLine 175 = .ok (.iinc 6 1, 3) := by decide +kernel
theorem dX8_holdsLine_178 : decode cX8_holdsLine 178 = .ok (.goto (-31), 3) := by decide +kernel
theorem dX8_holdsLine_181 : decode cX8_holdsLine 181 = .ok (.aload_n 0, 1) := by decide +kernel
theorem dX8_holdsLine_182 : decode cX8_holdsLine 182 = .ok (.invokevirtual 147, 3) := by decide +kernel
theorem dX8_holdsLine_185 : decode cX8_holdsLine 185 = .ok (.aload_n 0, 1) := by decide +kernel
theorem dX8_holdsLine_186 : decode cX8_holdsLine 186 = .ok (.dup, 1) := by decide +kernel
theorem dX8_holdsLine_187 : decode cX8_holdsLine 187 = .ok (.getfield 181, 3) := by decide +kernel
theorem dX8_holdsLine_190 : decode cX8_holdsLine 190 = .ok (.iconst 1, 1) := by decide +kernel
theorem dX8_holdsLine_191 : decode cX8_holdsLine 191 = .ok (.iadd, 1) := by decide +kernel
theorem dX8_holdsLine_192 : decode cX8_holdsLine 192 = .ok (.putfield 181, 3) := by decide +kernel
theorem dX8_holdsLine_195 : decode cX8_holdsLine 195 = .ok (.iconst 1, 1) := by decide +kernel
theorem dX8_holdsLine_196 : decode cX8_holdsLine 196 = .ok (.ireturn, 1) := by decide +kernel
abbrev rX8_holdsLine : Room := { frames := 4, cells := 0, slots := 0, locals := 83 }
theorem cal_X8_holdsLine : CalOk yX8_holdsLine cX8_holdsLine 7 (some .boolean) 0 := ⟨wm_6_38, wm_1_9, by decide, by decide, by decide +kernel⟩
def f_X8_holdsLine_147 : Nat → Nat → Int32 → Int32 → Int32 → Int32 → Mm → Option (Int32 × Mm)
  | 0, _, _, _, _, _, _ => none
  | n + 1, x0, x1, x2, x5, x6, M =>
    (if x5 < x6 then
      ck (gK M x0 = 8) (bd (f_X8_go x0 M) fun _ M1 =>
      ck (gK M1 x0 = 8) (ck (gK M1 x0 = 8) (nm (sI M1 x0 13 ((gI M1 x0 13) + (1 : Int32))) fun M2 =>
      some ((1 : Int32), M2))))
    else
      ck (gK M x0 = 8) (bR (gR M x0 18) fun q3 => ck (gK M q3 = 10 ∧ inb ((((240 : Int32) + ((60 : Int32) * x2)) + x6) - (1 : Int32)) (gN M q3)) (nm (sI M q3 (((((240 : Int32) + ((60 : Int32) * x2)) + x6) - (1 : Int32))).toNatClampNeg (x1 + (1 : Int32))) fun M4 =>
      f_X8_holdsLine_147 n x0 x1 x2 x5 (x6 + (1 : Int32)) M4)))
set_option maxRecDepth 20000 in
set_option maxHeartbeats 4000000 in
theorem s_X8_holdsLine_147 {z : Zt} {K : Int32 → Mm → Prop} (hz : Good z RX8 cX8_holdsLine 7 rX8_holdsLine (some .boolean)) (hq : Ret z zI K) : ∀ (n : Nat) (x0 : Nat) (x1 : Int32) (x2 : Int32) (x5 : Int32) (x6 : Int32) (M : Mm), Sim z 147 [(0, .ref x0), (1, .int x1), (2, .int x2), (5, .int x5), (6, .int x6)] [] M 0 0 (f_X8_holdsLine_147 n x0 x1 x2 x5 x6 M) K := by
  intro n
  induction n with
  | zero => exact fun _ _ _ _ _ _ => r_none
  | succ n ih =>
    intro x0 x1 x2 x5 x6 M
    unfold f_X8_holdsLine_147
    refine r_iload hz dX8_holdsLine_147 4 rfl ?_
    refine r_iload hz dX8_holdsLine_149 3 rfl ?_
    refine r_icmp_gt (tgt := 181) hz dX8_holdsLine_151 rfl ?_ ?_
    · refine r_aload_n hz dX8_holdsLine_181 0 rfl ?_
      refine r_callVv (As := fun _ => []) cl8 hz (fun _ _ h => t_X8_go _ _ _ _ h) cal_X8_go dX8_holdsLine_182 wm_5_178 wm_5_180 wm_p_44 rfl rfl (Nat.le_of_ble_eq_true rfl) ⟨(Nat.le_of_ble_eq_true rfl), (Nat.le_of_ble_eq_true rfl)⟩ ⟨(Nat.le_of_ble_eq_true rfl), (Nat.le_of_ble_eq_true rfl)⟩ (fun _ M1 => ?_)
      refine r_aload_n hz dX8_holdsLine_185 0 rfl ?_
      refine r_dup hz dX8_holdsLine_186 rfl ?_
      refine r_getI (j := 13) cl8 hz dX8_holdsLine_187 (by decide) wm_5_69 rfl ?_
      refine r_iconst (v := 1) hz dX8_holdsLine_190 rfl ?_
      refine r_iadd hz dX8_holdsLine_191 ?_
      refine r_putI (j := 13) cl8 hz dX8_holdsLine_192 (by decide) wm_5_69 (Or.inl rfl) rfl rfl rfl ?_
      refine r_nmM (fun M2 => ?_)
      refine r_iconst (v := 1) hz dX8_holdsLine_195 rfl ?_
      exact r_zret hz hq dX8_holdsLine_196 (Or.inr rfl) (Nat.le_of_ble_eq_true rfl) (Nat.le_of_ble_eq_true rfl)
    · refine r_aload_n hz dX8_holdsLine_154 0 rfl ?_
      refine r_getR (j := 18) cl8 hz dX8_holdsLine_155 (by decide) wm_5_74 rfl (fun q3 => ?_)
      refine r_sipush (v := 240) hz dX8_holdsLine_158 rfl ?_
      refine r_bipush (v := 60) hz dX8_holdsLine_161 rfl ?_
      refine r_iload_n hz dX8_holdsLine_163 2 rfl ?_
      refine r_imul hz dX8_holdsLine_164 ?_
      refine r_iadd hz dX8_holdsLine_165 ?_
      refine r_iload hz dX8_holdsLine_166 4 rfl ?_
      refine r_iadd hz dX8_holdsLine_168 ?_
      refine r_iconst (v := 1) hz dX8_holdsLine_169 rfl ?_
      refine r_isub hz dX8_holdsLine_170 ?_
      refine r_iload_n hz dX8_holdsLine_171 1 rfl ?_
      refine r_iconst (v := 1) hz dX8_holdsLine_172 rfl ?_
      refine r_iadd hz dX8_holdsLine_173 ?_
      refine r_iast hz dX8_holdsLine_174 ?_
      refine r_nmM (fun M4 => ?_)
      refine r_iinc (v := (x6 + (1 : Int32))) (lv' := [(6, .int (x6 + (1 : Int32))), (0, .ref x0), (1, .int x1), (2, .int x2), (5, .int x5)]) hz dX8_holdsLine_175 4 rfl rfl (by decide) rfl ?_
      refine r_goto (tgt := 147) hz dX8_holdsLine_178 rfl ?_
      refine r_sub [1, 2, 3, 4, 0] rfl ?_
      exact ih x0 x1 x2 x5 (x6 + (1 : Int32)) M4
def f_X8_holdsLine_103 : Nat → Nat → Int32 → Int32 → Int32 → Int32 → Int32 → Mm → Option (Int32 × Mm)
  | 0, _, _, _, _, _, _, _ => none
  | n + 1, x0, x1, x2, x4, x5, x6, M =>
    (if x5 < x6 then
      f_X8_holdsLine_147 FU x0 x1 x2 x5 x4 M
    else
      ck (gK M x0 = 8) (bR (gR M x0 18) fun q1 => ck (gK M q1 = 10 ∧ inb ((((240 : Int32) + ((60 : Int32) * x2)) + x6) - (1 : Int32)) (gN M q1)) ((if (gI M q1 (((((240 : Int32) + ((60 : Int32) * x2)) + x6) - (1 : Int32))).toNatClampNeg) ≤ 0 then
        f_X8_holdsLine_103 n x0 x1 x2 x4 x5 (x6 + (1 : Int32)) M
      else
        ck (gK M x0 = 8) (bd (f_X8_bad x0 (2 : Int32) M) fun v4 M3 =>
        ck (v4 = 0 ∨ v4 = 1) (some (v4, M3)))))))
set_option maxRecDepth 20000 in
set_option maxHeartbeats 4000000 in
theorem s_X8_holdsLine_103 {z : Zt} {K : Int32 → Mm → Prop} (hz : Good z RX8 cX8_holdsLine 7 rX8_holdsLine (some .boolean)) (hq : Ret z zI K) : ∀ (n : Nat) (x0 : Nat) (x1 : Int32) (x2 : Int32) (x4 : Int32) (x5 : Int32) (x6 : Int32) (M : Mm), Sim z 103 [(0, .ref x0), (1, .int x1), (2, .int x2), (4, .int x4), (5, .int x5), (6, .int x6)] [] M 0 0 (f_X8_holdsLine_103 n x0 x1 x2 x4 x5 x6 M) K := by
  intro n
  induction n with
  | zero => exact fun _ _ _ _ _ _ _ => r_none
  | succ n ih =>
    intro x0 x1 x2 x4 x5 x6 M
    unfold f_X8_holdsLine_103
    refine r_iload hz dX8_holdsLine_103 5 rfl ?_
    refine r_iload hz dX8_holdsLine_105 4 rfl ?_
    refine r_icmp_gt (tgt := 143) hz dX8_holdsLine_107 rfl ?_ ?_
    · refine r_iload hz dX8_holdsLine_143 3 rfl ?_
      refine r_istore (lv' := [(6, .int x4), (0, .ref x0), (1, .int x1), (2, .int x2), (4, .int x4), (5, .int x5)]) hz dX8_holdsLine_145 (by decide) rfl ?_
      refine r_sub [1, 2, 3, 5, 0] rfl ?_
      exact s_X8_holdsLine_147 hz hq FU x0 x1 x2 x5 x4 M
    · refine r_aload_n hz dX8_holdsLine_110 0 rfl ?_
      refine r_getR (j := 18) cl8 hz dX8_holdsLine_111 (by decide) wm_5_74 rfl (fun q1 => ?_)
      refine r_sipush (v := 240) hz dX8_holdsLine_114 rfl ?_
      refine r_bipush (v := 60) hz dX8_holdsLine_117 rfl ?_
      refine r_iload_n hz dX8_holdsLine_119 2 rfl ?_
      refine r_imul hz dX8_holdsLine_120 ?_
      refine r_iadd hz dX8_holdsLine_121 ?_
      refine r_iload hz dX8_holdsLine_122 5 rfl ?_
      refine r_iadd hz dX8_holdsLine_124 ?_
      refine r_iconst (v := 1) hz dX8_holdsLine_125 rfl ?_
      refine r_isub hz dX8_holdsLine_126 ?_
      refine r_iald hz dX8_holdsLine_127 ?_
      refine r_if_le (tgt := 137) hz dX8_holdsLine_128 rfl ?_ ?_
      · refine r_iinc (v := (x6 + (1 : Int32))) (lv' := [(6, .int (x6 + (1 : Int32))), (0, .ref x0), (1, .int x1), (2, .int x2), (4, .int x4), (5, .int x5)]) hz dX8_holdsLine_137 5 rfl rfl (by decide) rfl ?_
        refine r_goto (tgt := 103) hz dX8_holdsLine_140 rfl ?_
        refine r_sub [1, 2, 3, 4, 5, 0] rfl ?_
        exact ih x0 x1 x2 x4 x5 (x6 + (1 : Int32)) M
      · refine r_aload_n hz dX8_holdsLine_131 0 rfl ?_
        refine r_iconst (v := 2) hz dX8_holdsLine_132 rfl ?_
        refine r_callVi (As := fun _ => [.int (2 : Int32)]) cl8 hz (fun _ _ h => t_X8_bad _ _ _ _ _ h) cal_X8_bad dX8_holdsLine_133 wm_5_204 wm_5_206 wm_p_49 rfl rfl (Nat.le_of_ble_eq_true rfl) ⟨(Nat.le_of_ble_eq_true rfl), (Nat.le_of_ble_eq_true rfl)⟩ ⟨(Nat.le_of_ble_eq_true rfl), (Nat.le_of_ble_eq_true rfl)⟩ (fun v4 M3 => ?_)
        refine r_ck (fun h5 => ?_)
        exact r_zret hz hq dX8_holdsLine_136 h5 (Nat.le_of_ble_eq_true rfl) (Nat.le_of_ble_eq_true rfl)
def f_X8_holdsLine (p0 : Nat) (M : Mm) : Option (Int32 × Mm) :=
  ck (gK M p0 = 8) ((if ¬ (gI M p0 13) = (20 : Int32) then
    ck (gK M p0 = 8) (bd (f_X8_go p0 M) fun _ M1 =>
    ck (gK M1 p0 = 8) (bd (f_X8_known p0 (1 : Int32) M1) fun v3 M2 =>
    (if ¬ v3 = 0 then
      ck (gK M2 p0 = 8) (nm (gI M2 p0 10) fun v4 =>
      ck (gK M2 p0 = 8) (bd (f_X8_known p0 (0 : Int32) M2) fun v6 M5 =>
      (if ¬ v6 = 0 then
        ck (gK M5 p0 = 8) (nm (gI M5 p0 10) fun v7 =>
        ck (gK M5 p0 = 8) (bR (gR M5 p0 12) fun q8 => ck (gK M5 q8 = 10 ∧ inb (((12 : Int32) + ((7 : Int32) * v7)) + (0 : Int32)) (gN M5 q8)) (nm (gI M5 q8 ((((12 : Int32) + ((7 : Int32) * v7)) + (0 : Int32))).toNatClampNeg) fun v9 =>
        ck (gK M5 p0 = 8) (bd (f_X8_number p0 (1 : Int32) v9 M5) fun v11 M10 =>
        (if ¬ v11 = 0 then
          ck (gK M10 p0 = 8) (nm (gI M10 p0 10) fun v12 =>
          ck (gK M10 p0 = 8) (bd (f_X8_numberAt p0 v12 v9 M10) fun v14 M13 =>
          (if ¬ v14 = 0 then
            ck (gK M13 p0 = 8) (nm (gI M13 p0 7) fun v15 =>
            f_X8_holdsLine_103 FU p0 v4 v7 v12 v15 v12 M13)
          else
            some ((0 : Int32), M13))))
        else
          some ((0 : Int32), M10))))))
      else
        some ((0 : Int32), M5))))
    else
      some ((0 : Int32), M2))))
  else
    ck (gK M p0 = 8) (bd (f_X8_bad p0 (5 : Int32) M) fun v17 M16 =>
    ck (v17 = 0 ∨ v17 = 1) (some (v17, M16)))))
set_option maxRecDepth 20000 in
set_option maxHeartbeats 4000000 in
theorem t_X8_holdsLine (p0 : Nat) (M : Mm) (x : Int32) (M' : Mm) (h : f_X8_holdsLine p0 M = some (x, M')) : Ctr yX8_holdsLine cX8_holdsLine 7 (some .boolean) rX8_holdsLine (fun _ => [.ref p0]) M (zI x) M' := by
  refine ctr_of (plainFor_of_name (by decide)) (fun _ => Nat.le_of_ble_eq_true rfl) (fun z hz hin hq => ?_)
  have key : Sim z 0 [(0, .ref p0)] [] M 0 0 (f_X8_holdsLine p0 M) (fun a b => a = x ∧ b = M') := by
    have hq : Ret z zI (fun a b => a = x ∧ b = M') := fun a b e => by rw [e.1, e.2]; exact hq
    unfold f_X8_holdsLine
    refine r_aload_n hz dX8_holdsLine_0 0 rfl ?_
    refine r_getI (j := 13) cl8 hz dX8_holdsLine_1 (by decide) wm_5_69 rfl ?_
    refine r_bipush (v := 20) hz dX8_holdsLine_4 rfl ?_
    refine r_icmp_ne (tgt := 15) hz dX8_holdsLine_6 rfl ?_ ?_
    · refine r_aload_n hz dX8_holdsLine_15 0 rfl ?_
      refine r_callVv (As := fun _ => []) cl8 hz (fun _ _ h => t_X8_go _ _ _ _ h) cal_X8_go dX8_holdsLine_16 wm_5_178 wm_5_180 wm_p_44 rfl rfl (Nat.le_of_ble_eq_true rfl) ⟨(Nat.le_of_ble_eq_true rfl), (Nat.le_of_ble_eq_true rfl)⟩ ⟨(Nat.le_of_ble_eq_true rfl), (Nat.le_of_ble_eq_true rfl)⟩ (fun _ M1 => ?_)
      refine r_aload_n hz dX8_holdsLine_19 0 rfl ?_
      refine r_iconst (v := 1) hz dX8_holdsLine_20 rfl ?_
      refine r_callVi (As := fun _ => [.int (1 : Int32)]) cl8 hz (fun _ _ h => t_X8_known _ _ _ _ _ h) cal_X8_known dX8_holdsLine_21 wm_6_39 wm_6_41 wm_p_61 rfl rfl (Nat.le_of_ble_eq_true rfl) ⟨(Nat.le_of_ble_eq_true rfl), (Nat.le_of_ble_eq_true rfl)⟩ ⟨(Nat.le_of_ble_eq_true rfl), (Nat.le_of_ble_eq_true rfl)⟩ (fun v3 M2 => ?_)
      refine r_if_ne (tgt := 29) hz dX8_holdsLine_24 rfl ?_ ?_
      · refine r_aload_n hz dX8_holdsLine_29 0 rfl ?_
        refine r_getI (j := 10) cl8 hz dX8_holdsLine_30 (by decide) wm_5_66 rfl ?_
        refine r_nmi (fun v4 => ?_)
        refine r_istore_n (lv' := [(1, .int v4), (0, .ref p0)]) hz dX8_holdsLine_33 (by decide) rfl ?_
        refine r_aload_n hz dX8_holdsLine_34 1 rfl ?_
        refine r_iconst (v := 0) hz dX8_holdsLine_35 rfl ?_
        refine r_callVi (As := fun _ => [.int (0 : Int32)]) cl8 hz (fun _ _ h => t_X8_known _ _ _ _ _ h) cal_X8_known dX8_holdsLine_36 wm_6_39 wm_6_41 wm_p_61 rfl rfl (Nat.le_of_ble_eq_true rfl) ⟨(Nat.le_of_ble_eq_true rfl), (Nat.le_of_ble_eq_true rfl)⟩ ⟨(Nat.le_of_ble_eq_true rfl), (Nat.le_of_ble_eq_true rfl)⟩ (fun v6 M5 => ?_)
        refine r_if_ne (tgt := 44) hz dX8_holdsLine_39 rfl ?_ ?_
        · refine r_aload_n hz dX8_holdsLine_44 1 rfl ?_
          refine r_getI (j := 10) cl8 hz dX8_holdsLine_45 (by decide) wm_5_66 rfl ?_
          refine r_nmi (fun v7 => ?_)
          refine r_istore_n (lv' := [(2, .int v7), (1, .int v4), (0, .ref p0)]) hz dX8_holdsLine_48 (by decide) rfl ?_
          refine r_aload_n hz dX8_holdsLine_49 2 rfl ?_
          refine r_getR (j := 12) cl8 hz dX8_holdsLine_50 (by decide) wm_5_68 rfl (fun q8 => ?_)
          refine r_bipush (v := 12) hz dX8_holdsLine_53 rfl ?_
          refine r_bipush (v := 7) hz dX8_holdsLine_55 rfl ?_
          refine r_iload_n hz dX8_holdsLine_57 0 rfl ?_
          refine r_imul hz dX8_holdsLine_58 ?_
          refine r_iadd hz dX8_holdsLine_59 ?_
          refine r_iconst (v := 0) hz dX8_holdsLine_60 rfl ?_
          refine r_iadd hz dX8_holdsLine_61 ?_
          refine r_iald hz dX8_holdsLine_62 ?_
          refine r_nmi (fun v9 => ?_)
          refine r_istore_n (lv' := [(3, .int v9), (2, .int v7), (1, .int v4), (0, .ref p0)]) hz dX8_holdsLine_63 (by decide) rfl ?_
          refine r_aload_n hz dX8_holdsLine_64 3 rfl ?_
          refine r_iconst (v := 1) hz dX8_holdsLine_65 rfl ?_
          refine r_iload_n hz dX8_holdsLine_66 0 rfl ?_
          refine r_callVi (As := fun _ => [.int (1 : Int32), .int v9]) cl8 hz (fun _ _ h => t_X8_number _ _ _ _ _ _ h) cal_X8_number dX8_holdsLine_67 wm_6_18 wm_6_20 wm_p_56 rfl rfl (Nat.le_of_ble_eq_true rfl) ⟨(Nat.le_of_ble_eq_true rfl), (Nat.le_of_ble_eq_true rfl)⟩ ⟨(Nat.le_of_ble_eq_true rfl), (Nat.le_of_ble_eq_true rfl)⟩ (fun v11 M10 => ?_)
          refine r_if_ne (tgt := 75) hz dX8_holdsLine_70 rfl ?_ ?_
          · refine r_aload_n hz dX8_holdsLine_75 3 rfl ?_
            refine r_getI (j := 10) cl8 hz dX8_holdsLine_76 (by decide) wm_5_66 rfl ?_
            refine r_nmi (fun v12 => ?_)
            refine r_istore (lv' := [(4, .int v12), (3, .int v9), (2, .int v7), (1, .int v4), (0, .ref p0)]) hz dX8_holdsLine_79 (by decide) rfl ?_
            refine r_aload_n hz dX8_holdsLine_81 4 rfl ?_
            refine r_iload hz dX8_holdsLine_82 0 rfl ?_
            refine r_iload_n hz dX8_holdsLine_84 1 rfl ?_
            refine r_callVi (As := fun _ => [.int v12, .int v9]) cl8 hz (fun _ _ h => t_X8_numberAt _ _ _ _ _ _ h) cal_X8_numberAt dX8_holdsLine_85 wm_6_22 wm_6_24 wm_p_57 rfl rfl (Nat.le_of_ble_eq_true rfl) ⟨(Nat.le_of_ble_eq_true rfl), (Nat.le_of_ble_eq_true rfl)⟩ ⟨(Nat.le_of_ble_eq_true rfl), (Nat.le_of_ble_eq_true rfl)⟩ (fun v14 M13 => ?_)
            refine r_if_ne (tgt := 93) hz dX8_holdsLine_88 rfl ?_ ?_
            · refine r_aload_n hz dX8_holdsLine_93 4 rfl ?_
              refine r_getI (j := 7) cl8 hz dX8_holdsLine_94 (by decide) wm_5_63 rfl ?_
              refine r_nmi (fun v15 => ?_)
              refine r_istore (lv' := [(5, .int v15), (4, .int v12), (3, .int v9), (2, .int v7), (1, .int v4), (0, .ref p0)]) hz dX8_holdsLine_97 (by decide) rfl ?_
              refine r_iload hz dX8_holdsLine_99 1 rfl ?_
              refine r_istore (lv' := [(6, .int v12), (5, .int v15), (4, .int v12), (3, .int v9), (2, .int v7), (1, .int v4), (0, .ref p0)]) hz dX8_holdsLine_101 (by decide) rfl ?_
              refine r_sub [6, 5, 4, 2, 1, 0] rfl ?_
              exact s_X8_holdsLine_103 hz hq FU p0 v4 v7 v12 v15 v12 M13
            · refine r_iconst (v := 0) hz dX8_holdsLine_91 rfl ?_
              exact r_zret hz hq dX8_holdsLine_92 (Or.inl rfl) (Nat.le_of_ble_eq_true rfl) (Nat.le_of_ble_eq_true rfl)
          · refine r_iconst (v := 0) hz dX8_holdsLine_73 rfl ?_
            exact r_zret hz hq dX8_holdsLine_74 (Or.inl rfl) (Nat.le_of_ble_eq_true rfl) (Nat.le_of_ble_eq_true rfl)
        · refine r_iconst (v := 0) hz dX8_holdsLine_42 rfl ?_
          exact r_zret hz hq dX8_holdsLine_43 (Or.inl rfl) (Nat.le_of_ble_eq_true rfl) (Nat.le_of_ble_eq_true rfl)
      · refine r_iconst (v := 0) hz dX8_holdsLine_27 rfl ?_
        exact r_zret hz hq dX8_holdsLine_28 (Or.inl rfl) (Nat.le_of_ble_eq_true rfl) (Nat.le_of_ble_eq_true rfl)
    · refine r_aload_n hz dX8_holdsLine_9 0 rfl ?_
      refine r_iconst (v := 5) hz dX8_holdsLine_10 rfl ?_
      refine r_callVi (As := fun _ => [.int (5 : Int32)]) cl8 hz (fun _ _ h => t_X8_bad _ _ _ _ _ h) cal_X8_bad dX8_holdsLine_11 wm_5_204 wm_5_206 wm_p_49 rfl rfl (Nat.le_of_ble_eq_true rfl) ⟨(Nat.le_of_ble_eq_true rfl), (Nat.le_of_ble_eq_true rfl)⟩ ⟨(Nat.le_of_ble_eq_true rfl), (Nat.le_of_ble_eq_true rfl)⟩ (fun v17 M16 => ?_)
      refine r_ck (fun h18 => ?_)
      exact r_zret hz hq dX8_holdsLine_14 h18 (Nat.le_of_ble_eq_true rfl) (Nat.le_of_ble_eq_true rfl)
  exact key x M' h ⟨rfl, rfl⟩
theorem dX8_prizeLine_0 : decode cX8_prizeLine 0 = .ok (.aload_n 0, 1) := by decide +kernel
theorem dX8_prizeLine_1 : decode cX8_prizeLine 1 = .ok (.getfield 188, 3) := by decide +kernel
theorem dX8_prizeLine_4 : decode cX8_prizeLine 4 = .ok (.bipush 12, 2) := by decide +kernel
theorem dX8_prizeLine_6 : decode cX8_prizeLine 6 = .ok (.if_icmp .ne 9, 3) := by decide +kernel
theorem dX8_prizeLine_9 : decode cX8_prizeLine 9 = .ok (.aload_n 0, 1) := by decide +kernel
theorem dX8_prizeLine_10 : decode cX8_prizeLine 10 = .ok (.iconst 5, 1) := by decide +kernel
theorem dX8_prizeLine_11 : decode cX8_prizeLine 11 = .ok (.invokevirtual 144, 3) := by decide +kernel
theorem dX8_prizeLine_14 : decode cX8_prizeLine 14 = .ok (.ireturn, 1) := by decide +kernel
theorem dX8_prizeLine_15 : decode cX8_prizeLine 15 = .ok (.aload_n 0, 1) := by decide +kernel
theorem dX8_prizeLine_16 : decode cX8_prizeLine 16 = .ok (.invokevirtual 147, 3) := by decide +kernel
theorem dX8_prizeLine_19 : decode cX8_prizeLine 19 = .ok (.aload_n 0, 1) := by decide +kernel
theorem dX8_prizeLine_20 : decode cX8_prizeLine 20 = .ok (.iconst 0, 1) := by decide +kernel
theorem dX8_prizeLine_21 : decode cX8_prizeLine 21 = .ok (.invokevirtual 184, 3) := by decide +kernel
theorem dX8_prizeLine_24 : decode cX8_prizeLine 24 = .ok (.ifCond .ne 5, 3) := by decide +kernel
theorem dX8_prizeLine_27 : decode cX8_prizeLine 27 = .ok (.iconst 0, 1) := by decide +kernel
theorem dX8_prizeLine_28 : decode cX8_prizeLine 28 = .ok (.ireturn, 1) := by decide +kernel
theorem dX8_prizeLine_29 : decode cX8_prizeLine 29 = .ok (.bipush 40, 2) := by decide +kernel
theorem dX8_prizeLine_31 : decode cX8_prizeLine 31 = .ok (.bipush 10, 2) := by decide +kernel
theorem dX8_prizeLine_33 : decode cX8_prizeLine 33 = .ok (.aload_n 0, 1) := by decide +kernel
theorem dX8_prizeLine_34 : decode cX8_prizeLine 34 = .ok (.getfield 154, 3) := by decide +kernel
theorem dX8_prizeLine_37 : decode cX8_prizeLine 37 = .ok (.imul, 1) := by decide +kernel
theorem dX8_prizeLine_38 : decode cX8_prizeLine 38 = .ok (.iadd, 1) := by decide +kernel
theorem dX8_prizeLine_39 : decode cX8_prizeLine 39 = .ok (.istore_n 1, 1) := by decide +kernel
theorem dX8_prizeLine_40 : decode cX8_prizeLine 40 = .ok (.aload_n 0, 1) := by decide +kernel
theorem dX8_prizeLine_41 : decode cX8_prizeLine 41 = .ok (.iconst 1, 1) := by decide +kernel
theorem dX8_prizeLine_42 : decode cX8_prizeLine 42 = .ok (.bipush 9, 2) := by decide +kernel
theorem dX8_prizeLine_44 : decode cX8_prizeLine 44 = .ok (.invokevirtual 150, 3) := by decide +kernel
theorem dX8_prizeLine_47 : decode cX8_prizeLine 47 = .ok (.ifCond .ne 5, 3) := by decide +kernel
theorem dX8_prizeLine_50 : decode cX8_prizeLine 50 = .ok (.iconst 0, 1) := by decide +kernel
theorem dX8_prizeLine_51 : decode cX8_prizeLine 51 = .ok (.ireturn, 1) := by decide +kernel
theorem dX8_prizeLine_52 : decode cX8_prizeLine 52 = .ok (.aload_n 0, 1) := by decide +kernel
theorem dX8_prizeLine_53 : decode cX8_prizeLine 53 = .ok (.getfield 17, 3) := by decide +kernel
theorem dX8_prizeLine_56 : decode cX8_prizeLine 56 = .ok (.iload_n 1, 1) := by decide +kernel
theorem dX8_prizeLine_57 : decode cX8_prizeLine 57 = .ok (.aload_n 0, 1) := by decide +kernel
theorem dX8_prizeLine_58 : decode cX8_prizeLine 58 = .ok (.getfield 70, 3) := by decide +kernel
theorem dX8_prizeLine_61 : decode cX8_prizeLine 61 = .ok (.iadd, 1) := by decide +kernel
theorem dX8_prizeLine_62 : decode cX8_prizeLine 62 = .ok (.iaload, 1) := by decide +kernel
theorem dX8_prizeLine_63 : decode cX8_prizeLine 63 = .ok (.ifCond .le 9, 3) := by decide +kernel
theorem dX8_prizeLine_66 : decode cX8_prizeLine 66 = .ok (.aload_n 0, 1) := by decide +kernel
theorem dX8_prizeLine_67 : decode cX8_prizeLine 67 = .ok (.iconst 2, 1) := by decide +kernel
theorem dX8_prizeLine_68 : decode cX8_prizeLine 68 = .ok (.invokevirtual 144, 3) := by decide +kernel
theorem dX8_prizeLine_71 : decode cX8_prizeLine 71 = .ok (.ireturn, 1) := by decide +kernel
theorem dX8_prizeLine_72 : decode cX8_prizeLine 72 = .ok (.iload_n 1, 1) := by decide +kernel
theorem dX8_prizeLine_73 : decode cX8_prizeLine 73 = .ok (.aload_n 0, 1) := by decide +kernel
theorem dX8_prizeLine_74 : decode cX8_prizeLine 74 = .ok (.getfield 70, 3) := by decide +kernel
theorem dX8_prizeLine_77 : decode cX8_prizeLine 77 = .ok (.iadd, 1) := by decide +kernel
theorem dX8_prizeLine_78 : decode cX8_prizeLine 78 = .ok (.istore_n 1, 1) := by decide +kernel
theorem dX8_prizeLine_79 : decode cX8_prizeLine 79 = .ok (.aload_n 0, 1) := by decide +kernel
theorem dX8_prizeLine_80 : decode cX8_prizeLine 80 = .ok (.invokevirtual 147, 3) := by decide +kernel
theorem dX8_prizeLine_83 : decode cX8_prizeLine 83 = .ok (.aload_n 0, 1) := by decide +kernel
theorem dX8_prizeLine_84 : decode cX8_prizeLine 84 = .ok (.iconst 1, 1) := by decide +kernel
theorem dX8_prizeLine_85 : decode cX8_prizeLine 85 = .ok (.sipush 9999, 3) := by decide +kernel
theorem dX8_prizeLine_88 : decode cX8_prizeLine 88 = .ok (.invokevirtual 167, 3) := by decide +kernel
theorem dX8_prizeLine_91 : decode cX8_prizeLine 91 = .ok (.ifCond .ne 5, 3) := by decide +kernel
theorem dX8_prizeLine_94 : decode cX8_prizeLine 94 = .ok (.iconst 0, 1) := by decide +kernel
theorem dX8_prizeLine_95 : decode cX8_prizeLine 95 = .ok (.ireturn, 1) := by decide +kernel
theorem dX8_prizeLine_96 : decode cX8_prizeLine 96 = .ok (.aload_n 0, 1) := by decide +kernel
theorem dX8_prizeLine_97 : decode cX8_prizeLine 97 = .ok (.getfield 17, 3) := by decide +kernel
theorem dX8_prizeLine_100 : decode cX8_prizeLine 100 = .ok (.iload_n 1, 1) := by decide +kernel
theorem dX8_prizeLine_101 : decode cX8_prizeLine 101 = .ok (.aload_n 0, 1) := by decide +kernel
theorem dX8_prizeLine_102 : decode cX8_prizeLine 102 = .ok (.getfield 154, 3) := by decide +kernel
theorem dX8_prizeLine_105 : decode cX8_prizeLine 105 = .ok (.iastore, 1) := by decide +kernel
theorem dX8_prizeLine_106 : decode cX8_prizeLine 106 = .ok (.aload_n 0, 1) := by decide +kernel
theorem dX8_prizeLine_107 : decode cX8_prizeLine 107 = .ok (.dup, 1) := by decide +kernel
theorem dX8_prizeLine_108 : decode cX8_prizeLine 108 = .ok (.getfield 188, 3) := by decide +kernel
theorem dX8_prizeLine_111 : decode cX8_prizeLine 111 = .ok (.iconst 1, 1) := by decide +kernel
theorem dX8_prizeLine_112 : decode cX8_prizeLine 112 = .ok (.iadd, 1) := by decide +kernel
theorem dX8_prizeLine_113 : decode cX8_prizeLine 113 = .ok (.putfield 188, 3) := by decide +kernel
theorem dX8_prizeLine_116 : decode cX8_prizeLine 116 = .ok (.iconst 1, 1) := by decide +kernel
theorem dX8_prizeLine_117 : decode cX8_prizeLine 117 = .ok (.ireturn, 1) := by decide +kernel
abbrev rX8_prizeLine : Room := { frames := 4, cells := 0, slots := 0, locals := 83 }
theorem cal_X8_prizeLine : CalOk yX8_prizeLine cX8_prizeLine 2 (some .boolean) 0 := ⟨wm_6_46, wm_1_9, by decide, by decide, by decide +kernel⟩
def f_X8_prizeLine (p0 : Nat) (M : Mm) : Option (Int32 × Mm) :=
  ck (gK M p0 = 8) ((if ¬ (gI M p0 14) = (12 : Int32) then
    ck (gK M p0 = 8) (bd (f_X8_go p0 M) fun _ M1 =>
    ck (gK M1 p0 = 8) (bd (f_X8_known p0 (0 : Int32) M1) fun v3 M2 =>
    (if ¬ v3 = 0 then
      ck (gK M2 p0 = 8) (nm ((40 : Int32) + ((10 : Int32) * (gI M2 p0 10))) fun v4 =>
      ck (gK M2 p0 = 8) (bd (f_X8_numberAt p0 (1 : Int32) (9 : Int32) M2) fun v6 M5 =>
      (if ¬ v6 = 0 then
        ck (gK M5 p0 = 8) (bR (gR M5 p0 12) fun q7 => ck (gK M5 p0 = 8) (ck (gK M5 q7 = 10 ∧ inb (v4 + (gI M5 p0 7)) (gN M5 q7)) ((if (gI M5 q7 ((v4 + (gI M5 p0 7))).toNatClampNeg) ≤ 0 then
          ck (gK M5 p0 = 8) (nm (v4 + (gI M5 p0 7)) fun v8 =>
          ck (gK M5 p0 = 8) (bd (f_X8_go p0 M5) fun _ M9 =>
          ck (gK M9 p0 = 8) (bd (f_X8_number p0 (1 : Int32) (9999 : Int32) M9) fun v11 M10 =>
          (if ¬ v11 = 0 then
            ck (gK M10 p0 = 8) (bR (gR M10 p0 12) fun q12 => ck (gK M10 p0 = 8) (ck (gK M10 q12 = 10 ∧ inb v8 (gN M10 q12)) (nm (sI M10 q12 (v8).toNatClampNeg (gI M10 p0 10)) fun M13 =>
            ck (gK M13 p0 = 8) (ck (gK M13 p0 = 8) (nm (sI M13 p0 14 ((gI M13 p0 14) + (1 : Int32))) fun M14 =>
            some ((1 : Int32), M14))))))
          else
            some ((0 : Int32), M10)))))
        else
          ck (gK M5 p0 = 8) (bd (f_X8_bad p0 (2 : Int32) M5) fun v16 M15 =>
          ck (v16 = 0 ∨ v16 = 1) (some (v16, M15)))))))
      else
        some ((0 : Int32), M5))))
    else
      some ((0 : Int32), M2))))
  else
    ck (gK M p0 = 8) (bd (f_X8_bad p0 (5 : Int32) M) fun v19 M18 =>
    ck (v19 = 0 ∨ v19 = 1) (some (v19, M18)))))
set_option maxRecDepth 20000 in
set_option maxHeartbeats 4000000 in
theorem t_X8_prizeLine (p0 : Nat) (M : Mm) (x : Int32) (M' : Mm) (h : f_X8_prizeLine p0 M = some (x, M')) : Ctr yX8_prizeLine cX8_prizeLine 2 (some .boolean) rX8_prizeLine (fun _ => [.ref p0]) M (zI x) M' := by
  refine ctr_of (plainFor_of_name (by decide)) (fun _ => Nat.le_of_ble_eq_true rfl) (fun z hz hin hq => ?_)
  have key : Sim z 0 [(0, .ref p0)] [] M 0 0 (f_X8_prizeLine p0 M) (fun a b => a = x ∧ b = M') := by
    have hq : Ret z zI (fun a b => a = x ∧ b = M') := fun a b e => by rw [e.1, e.2]; exact hq
    unfold f_X8_prizeLine
    refine r_aload_n hz dX8_prizeLine_0 0 rfl ?_
    refine r_getI (j := 14) cl8 hz dX8_prizeLine_1 (by decide) wm_5_70 rfl ?_
    refine r_bipush (v := 12) hz dX8_prizeLine_4 rfl ?_
    refine r_icmp_ne (tgt := 15) hz dX8_prizeLine_6 rfl ?_ ?_
    · refine r_aload_n hz dX8_prizeLine_15 0 rfl ?_
      refine r_callVv (As := fun _ => []) cl8 hz (fun _ _ h => t_X8_go _ _ _ _ h) cal_X8_go dX8_prizeLine_16 wm_5_178 wm_5_180 wm_p_44 rfl rfl (Nat.le_of_ble_eq_true rfl) ⟨(Nat.le_of_ble_eq_true rfl), (Nat.le_of_ble_eq_true rfl)⟩ ⟨(Nat.le_of_ble_eq_true rfl), (Nat.le_of_ble_eq_true rfl)⟩ (fun _ M1 => ?_)
      refine r_aload_n hz dX8_prizeLine_19 0 rfl ?_
      refine r_iconst (v := 0) hz dX8_prizeLine_20 rfl ?_
      refine r_callVi (As := fun _ => [.int (0 : Int32)]) cl8 hz (fun _ _ h => t_X8_known _ _ _ _ _ h) cal_X8_known dX8_prizeLine_21 wm_6_39 wm_6_41 wm_p_61 rfl rfl (Nat.le_of_ble_eq_true rfl) ⟨(Nat.le_of_ble_eq_true rfl), (Nat.le_of_ble_eq_true rfl)⟩ ⟨(Nat.le_of_ble_eq_true rfl), (Nat.le_of_ble_eq_true rfl)⟩ (fun v3 M2 => ?_)
      refine r_if_ne (tgt := 29) hz dX8_prizeLine_24 rfl ?_ ?_
      · refine r_bipush (v := 40) hz dX8_prizeLine_29 rfl ?_
        refine r_bipush (v := 10) hz dX8_prizeLine_31 rfl ?_
        refine r_aload_n hz dX8_prizeLine_33 0 rfl ?_
        refine r_getI (j := 10) cl8 hz dX8_prizeLine_34 (by decide) wm_5_66 rfl ?_
        refine r_imul hz dX8_prizeLine_37 ?_
        refine r_iadd hz dX8_prizeLine_38 ?_
        refine r_nmi (fun v4 => ?_)
        refine r_istore_n (lv' := [(1, .int v4), (0, .ref p0)]) hz dX8_prizeLine_39 (by decide) rfl ?_
        refine r_aload_n hz dX8_prizeLine_40 1 rfl ?_
        refine r_iconst (v := 1) hz dX8_prizeLine_41 rfl ?_
        refine r_bipush (v := 9) hz dX8_prizeLine_42 rfl ?_
        refine r_callVi (As := fun _ => [.int (1 : Int32), .int (9 : Int32)]) cl8 hz (fun _ _ h => t_X8_numberAt _ _ _ _ _ _ h) cal_X8_numberAt dX8_prizeLine_44 wm_6_22 wm_6_24 wm_p_57 rfl rfl (Nat.le_of_ble_eq_true rfl) ⟨(Nat.le_of_ble_eq_true rfl), (Nat.le_of_ble_eq_true rfl)⟩ ⟨(Nat.le_of_ble_eq_true rfl), (Nat.le_of_ble_eq_true rfl)⟩ (fun v6 M5 => ?_)
        refine r_if_ne (tgt := 52) hz dX8_prizeLine_47 rfl ?_ ?_
        · refine r_aload_n hz dX8_prizeLine_52 1 rfl ?_
          refine r_getR (j := 12) cl8 hz dX8_prizeLine_53 (by decide) wm_5_68 rfl (fun q7 => ?_)
          refine r_iload_n hz dX8_prizeLine_56 0 rfl ?_
          refine r_aload_n hz dX8_prizeLine_57 1 rfl ?_
          refine r_getI (j := 7) cl8 hz dX8_prizeLine_58 (by decide) wm_5_63 rfl ?_
          refine r_iadd hz dX8_prizeLine_61 ?_
          refine r_iald hz dX8_prizeLine_62 ?_
          refine r_if_le (tgt := 72) hz dX8_prizeLine_63 rfl ?_ ?_
          · refine r_iload_n hz dX8_prizeLine_72 0 rfl ?_
            refine r_aload_n hz dX8_prizeLine_73 1 rfl ?_
            refine r_getI (j := 7) cl8 hz dX8_prizeLine_74 (by decide) wm_5_63 rfl ?_
            refine r_iadd hz dX8_prizeLine_77 ?_
            refine r_nmi (fun v8 => ?_)
            refine r_istore_n (lv' := [(1, .int v8), (0, .ref p0)]) hz dX8_prizeLine_78 (by decide) rfl ?_
            refine r_aload_n hz dX8_prizeLine_79 1 rfl ?_
            refine r_callVv (As := fun _ => []) cl8 hz (fun _ _ h => t_X8_go _ _ _ _ h) cal_X8_go dX8_prizeLine_80 wm_5_178 wm_5_180 wm_p_44 rfl rfl (Nat.le_of_ble_eq_true rfl) ⟨(Nat.le_of_ble_eq_true rfl), (Nat.le_of_ble_eq_true rfl)⟩ ⟨(Nat.le_of_ble_eq_true rfl), (Nat.le_of_ble_eq_true rfl)⟩ (fun _ M9 => ?_)
            refine r_aload_n hz dX8_prizeLine_83 1 rfl ?_
            refine r_iconst (v := 1) hz dX8_prizeLine_84 rfl ?_
            refine r_sipush (v := 9999) hz dX8_prizeLine_85 rfl ?_
            refine r_callVi (As := fun _ => [.int (1 : Int32), .int (9999 : Int32)]) cl8 hz (fun _ _ h => t_X8_number _ _ _ _ _ _ h) cal_X8_number dX8_prizeLine_88 wm_6_18 wm_6_20 wm_p_56 rfl rfl (Nat.le_of_ble_eq_true rfl) ⟨(Nat.le_of_ble_eq_true rfl), (Nat.le_of_ble_eq_true rfl)⟩ ⟨(Nat.le_of_ble_eq_true rfl), (Nat.le_of_ble_eq_true rfl)⟩ (fun v11 M10 => ?_)
            refine r_if_ne (tgt := 96) hz dX8_prizeLine_91 rfl ?_ ?_
            · refine r_aload_n hz dX8_prizeLine_96 1 rfl ?_
              refine r_getR (j := 12) cl8 hz dX8_prizeLine_97 (by decide) wm_5_68 rfl (fun q12 => ?_)
              refine r_iload_n hz dX8_prizeLine_100 0 rfl ?_
              refine r_aload_n hz dX8_prizeLine_101 1 rfl ?_
              refine r_getI (j := 10) cl8 hz dX8_prizeLine_102 (by decide) wm_5_66 rfl ?_
              refine r_iast hz dX8_prizeLine_105 ?_
              refine r_nmM (fun M13 => ?_)
              refine r_aload_n hz dX8_prizeLine_106 1 rfl ?_
              refine r_dup hz dX8_prizeLine_107 rfl ?_
              refine r_getI (j := 14) cl8 hz dX8_prizeLine_108 (by decide) wm_5_70 rfl ?_
              refine r_iconst (v := 1) hz dX8_prizeLine_111 rfl ?_
              refine r_iadd hz dX8_prizeLine_112 ?_
              refine r_putI (j := 14) cl8 hz dX8_prizeLine_113 (by decide) wm_5_70 (Or.inl rfl) rfl rfl rfl ?_
              refine r_nmM (fun M14 => ?_)
              refine r_iconst (v := 1) hz dX8_prizeLine_116 rfl ?_
              exact r_zret hz hq dX8_prizeLine_117 (Or.inr rfl) (Nat.le_of_ble_eq_true rfl) (Nat.le_of_ble_eq_true rfl)
            · refine r_iconst (v := 0) hz dX8_prizeLine_94 rfl ?_
              exact r_zret hz hq dX8_prizeLine_95 (Or.inl rfl) (Nat.le_of_ble_eq_true rfl) (Nat.le_of_ble_eq_true rfl)
          · refine r_aload_n hz dX8_prizeLine_66 1 rfl ?_
            refine r_iconst (v := 2) hz dX8_prizeLine_67 rfl ?_
            refine r_callVi (As := fun _ => [.int (2 : Int32)]) cl8 hz (fun _ _ h => t_X8_bad _ _ _ _ _ h) cal_X8_bad dX8_prizeLine_68 wm_5_204 wm_5_206 wm_p_49 rfl rfl (Nat.le_of_ble_eq_true rfl) ⟨(Nat.le_of_ble_eq_true rfl), (Nat.le_of_ble_eq_true rfl)⟩ ⟨(Nat.le_of_ble_eq_true rfl), (Nat.le_of_ble_eq_true rfl)⟩ (fun v16 M15 => ?_)
            refine r_ck (fun h17 => ?_)
            exact r_zret hz hq dX8_prizeLine_71 h17 (Nat.le_of_ble_eq_true rfl) (Nat.le_of_ble_eq_true rfl)
        · refine r_iconst (v := 0) hz dX8_prizeLine_50 rfl ?_
          exact r_zret hz hq dX8_prizeLine_51 (Or.inl rfl) (Nat.le_of_ble_eq_true rfl) (Nat.le_of_ble_eq_true rfl)
      · refine r_iconst (v := 0) hz dX8_prizeLine_27 rfl ?_
        exact r_zret hz hq dX8_prizeLine_28 (Or.inl rfl) (Nat.le_of_ble_eq_true rfl) (Nat.le_of_ble_eq_true rfl)
    · refine r_aload_n hz dX8_prizeLine_9 0 rfl ?_
      refine r_iconst (v := 5) hz dX8_prizeLine_10 rfl ?_
      refine r_callVi (As := fun _ => [.int (5 : Int32)]) cl8 hz (fun _ _ h => t_X8_bad _ _ _ _ _ h) cal_X8_bad dX8_prizeLine_11 wm_5_204 wm_5_206 wm_p_49 rfl rfl (Nat.le_of_ble_eq_true rfl) ⟨(Nat.le_of_ble_eq_true rfl), (Nat.le_of_ble_eq_true rfl)⟩ ⟨(Nat.le_of_ble_eq_true rfl), (Nat.le_of_ble_eq_true rfl)⟩ (fun v19 M18 => ?_)
      refine r_ck (fun h20 => ?_)
      exact r_zret hz hq dX8_prizeLine_14 h20 (Nat.le_of_ble_eq_true rfl) (Nat.le_of_ble_eq_true rfl)
  exact key x M' h ⟨rfl, rfl⟩
theorem dX8_priceLine_0 : decode cX8_priceLine 0 = .ok (.aload_n 0, 1) := by decide +kernel
theorem dX8_priceLine_1 : decode cX8_priceLine 1 = .ok (.getfield 191, 3) := by decide +kernel
theorem dX8_priceLine_4 : decode cX8_priceLine 4 = .ok (.bipush 24, 2) := by decide +kernel
theorem dX8_priceLine_6 : decode cX8_priceLine 6 = .ok (.if_icmp .ne 9, 3) := by decide +kernel
theorem dX8_priceLine_9 : decode cX8_priceLine 9 = .ok (.aload_n 0, 1) := by decide +kernel
theorem dX8_priceLine_10 : decode cX8_priceLine 10 = .ok (.iconst 5, 1) := by decide +kernel
theorem dX8_priceLine_11 : decode cX8_priceLine 11 = .ok (.invokevirtual 144, 3) := by decide +kernel
theorem dX8_priceLine_14 : decode cX8_priceLine 14 = .ok (.ireturn, 1) := by decide +kernel
theorem dX8_priceLine_15 : decode cX8_priceLine 15 = .ok (.aload_n 0, 1) := by decide +kernel
theorem dX8_priceLine_16 : decode cX8_priceLine 16 = .ok (.invokevirtual 147, 3) := by decide +kernel
theorem dX8_priceLine_19 : decode cX8_priceLine 19 = .ok (.aload_n 0, 1) := by decide +kernel
theorem dX8_priceLine_20 : decode cX8_priceLine 20 = .ok (.iconst 0, 1) := by decide +kernel
theorem dX8_priceLine_21 : decode cX8_priceLine 21 = .ok (.invokevirtual 184, 3) := by decide +kernel
theorem dX8_priceLine_24 : decode cX8_priceLine 24 = .ok (.ifCond .ne 5, 3) := by decide +kernel
theorem dX8_priceLine_27 : decode cX8_priceLine 27 = .ok (.iconst 0, 1) := by decide +kernel
theorem dX8_priceLine_28 : decode cX8_priceLine 28 = .ok (.ireturn, 1) := by decide +kernel
theorem dX8_priceLine_29 : decode cX8_priceLine 29 = .ok (.sipush 1215, 3) := by decide +kernel
theorem dX8_priceLine_32 : decode cX8_priceLine 32 = .ok (.bipush 21, 2) := by decide +kernel
theorem dX8_priceLine_34 : decode cX8_priceLine 34 = .ok (.aload_n 0, 1) := by decide +kernel
theorem dX8_priceLine_35 : decode cX8_priceLine 35 = .ok (.getfield 154, 3) := by decide +kernel
theorem dX8_priceLine_38 : decode cX8_priceLine 38 = .ok (.imul, 1) := by decide +kernel
theorem dX8_priceLine_39 : decode cX8_priceLine 39 = .ok (.iadd, 1) := by decide +kernel
theorem dX8_priceLine_40 : decode cX8_priceLine 40 = .ok (.istore_n 1, 1) := by decide +kernel
theorem dX8_priceLine_41 : decode cX8_priceLine 41 = .ok (.aload_n 0, 1) := by decide +kernel
theorem dX8_priceLine_42 : decode cX8_priceLine 42 = .ok (.iconst 1, 1) := by decide +kernel
theorem dX8_priceLine_43 : decode cX8_priceLine 43 = .ok (.aload_n 0, 1) := by decide +kernel
theorem dX8_priceLine_44 : decode cX8_priceLine 44 = .ok (.getfield 17, 3) := by decide +kernel
theorem dX8_priceLine_47 : decode cX8_priceLine 47 = .ok (.bipush 12, 2) := by decide +kernel
theorem dX8_priceLine_49 : decode cX8_priceLine 49 = .ok (.bipush 7, 2) := by decide +kernel
theorem dX8_priceLine_51 : decode cX8_priceLine 51 = .ok (.aload_n 0, 1) := by decide +kernel
theorem dX8_priceLine_52 : decode cX8_priceLine 52 = .ok (.getfield 154, 3) := by decide +kernel
theorem dX8_priceLine_55 : decode cX8_priceLine 55 = .ok (.imul, 1) := by decide +kernel
theorem dX8_priceLine_56 : decode cX8_priceLine 56 = .ok (.iadd, 1) := by decide +kernel
theorem dX8_priceLine_57 : decode cX8_priceLine 57 = .ok (.iconst 3, 1) := by decide +kernel
theorem dX8_priceLine_58 : decode cX8_priceLine 58 = .ok (.iadd, 1) := by decide +kernel
theorem dX8_priceLine_59 : decode cX8_priceLine 59 = .ok (.iaload, 1) := by decide +kernel
theorem dX8_priceLine_60 : decode cX8_priceLine 60 = .ok (.invokevirtual 150, 3) := by decide +kernel
theorem dX8_priceLine_63 : decode cX8_priceLine 63 = .ok (.ifCond .ne 5, 3) := by decide +kernel
theorem dX8_priceLine_66 : decode cX8_priceLine 66 = .ok (.iconst 0, 1) := by decide +kernel
theorem dX8_priceLine_67 : decode cX8_priceLine 67 = .ok (.ireturn, 1) := by decide +kernel
theorem dX8_priceLine_68 : decode cX8_priceLine 68 = .ok (.aload_n 0, 1) := by decide +kernel
theorem dX8_priceLine_69 : decode cX8_priceLine 69 = .ok (.getfield 23, 3) := by decide +kernel
theorem dX8_priceLine_72 : decode cX8_priceLine 72 = .ok (.iload_n 1, 1) := by decide +kernel
theorem dX8_priceLine_73 : decode cX8_priceLine 73 = .ok (.aload_n 0, 1) := by decide +kernel
theorem dX8_priceLine_74 : decode cX8_priceLine 74 = .ok (.getfield 70, 3) := by decide +kernel
theorem dX8_priceLine_77 : decode cX8_priceLine 77 = .ok (.iadd, 1) := by decide +kernel
theorem dX8_priceLine_78 : decode cX8_priceLine 78 = .ok (.iaload, 1) := by decide +kernel
theorem dX8_priceLine_79 : decode cX8_priceLine 79 = .ok (.ifCond .le 9, 3) := by decide +kernel
theorem dX8_priceLine_82 : decode cX8_priceLine 82 = .ok (.aload_n 0, 1) := by decide +kernel
theorem dX8_priceLine_83 : decode cX8_priceLine 83 = .ok (.iconst 2, 1) := by decide +kernel
theorem dX8_priceLine_84 : decode cX8_priceLine 84 = .ok (.invokevirtual 144, 3) := by decide +kernel
theorem dX8_priceLine_87 : decode cX8_priceLine 87 = .ok (.ireturn, 1) := by decide +kernel
theorem dX8_priceLine_88 : decode cX8_priceLine 88 = .ok (.iload_n 1, 1) := by decide +kernel
theorem dX8_priceLine_89 : decode cX8_priceLine 89 = .ok (.aload_n 0, 1) := by decide +kernel
theorem dX8_priceLine_90 : decode cX8_priceLine 90 = .ok (.getfield 70, 3) := by decide +kernel
theorem dX8_priceLine_93 : decode cX8_priceLine 93 = .ok (.iadd, 1) := by decide +kernel
theorem dX8_priceLine_94 : decode cX8_priceLine 94 = .ok (.istore_n 1, 1) := by decide +kernel
theorem dX8_priceLine_95 : decode cX8_priceLine 95 = .ok (.aload_n 0, 1) := by decide +kernel
theorem dX8_priceLine_96 : decode cX8_priceLine 96 = .ok (.invokevirtual 147, 3) := by decide +kernel
theorem dX8_priceLine_99 : decode cX8_priceLine 99 = .ok (.aload_n 0, 1) := by decide +kernel
theorem dX8_priceLine_100 : decode cX8_priceLine 100 = .ok (.iconst 1, 1) := by decide +kernel
theorem dX8_priceLine_101 : decode cX8_priceLine 101 = .ok (.sipush 999, 3) := by decide +kernel
theorem dX8_priceLine_104 : decode cX8_priceLine 104 = .ok (.invokevirtual 167, 3) := by decide +kernel
theorem dX8_priceLine_107 : decode cX8_priceLine 107 = .ok (.ifCond .ne 5, 3) := by decide +kernel
theorem dX8_priceLine_110 : decode cX8_priceLine 110 = .ok (.iconst 0, 1) := by decide +kernel
theorem dX8_priceLine_111 : decode cX8_priceLine 111 = .ok (.ireturn, 1) := by decide +kernel
theorem dX8_priceLine_112 : decode cX8_priceLine 112 = .ok (.aload_n 0, 1) := by decide +kernel
theorem dX8_priceLine_113 : decode cX8_priceLine 113 = .ok (.getfield 23, 3) := by decide +kernel
theorem dX8_priceLine_116 : decode cX8_priceLine 116 = .ok (.iload_n 1, 1) := by decide +kernel
theorem dX8_priceLine_117 : decode cX8_priceLine 117 = .ok (.aload_n 0, 1) := by decide +kernel
theorem dX8_priceLine_118 : decode cX8_priceLine 118 = .ok (.getfield 154, 3) := by decide +kernel
theorem dX8_priceLine_121 : decode cX8_priceLine 121 = .ok (.iastore, 1) := by decide +kernel
theorem dX8_priceLine_122 : decode cX8_priceLine 122 = .ok (.aload_n 0, 1) := by decide +kernel
theorem dX8_priceLine_123 : decode cX8_priceLine 123 = .ok (.dup, 1) := by decide +kernel
theorem dX8_priceLine_124 : decode cX8_priceLine 124 = .ok (.getfield 191, 3) := by decide +kernel
theorem dX8_priceLine_127 : decode cX8_priceLine 127 = .ok (.iconst 1, 1) := by decide +kernel
theorem dX8_priceLine_128 : decode cX8_priceLine 128 = .ok (.iadd, 1) := by decide +kernel
theorem dX8_priceLine_129 : decode cX8_priceLine 129 = .ok (.putfield 191, 3) := by decide +kernel
theorem dX8_priceLine_132 : decode cX8_priceLine 132 = .ok (.iconst 1, 1) := by decide +kernel
theorem dX8_priceLine_133 : decode cX8_priceLine 133 = .ok (.ireturn, 1) := by decide +kernel
abbrev rX8_priceLine : Room := { frames := 4, cells := 0, slots := 0, locals := 83 }
theorem cal_X8_priceLine : CalOk yX8_priceLine cX8_priceLine 2 (some .boolean) 0 := ⟨wm_6_50, wm_1_9, by decide, by decide, by decide +kernel⟩
def f_X8_priceLine (p0 : Nat) (M : Mm) : Option (Int32 × Mm) :=
  ck (gK M p0 = 8) ((if ¬ (gI M p0 15) = (24 : Int32) then
    ck (gK M p0 = 8) (bd (f_X8_go p0 M) fun _ M1 =>
    ck (gK M1 p0 = 8) (bd (f_X8_known p0 (0 : Int32) M1) fun v3 M2 =>
    (if ¬ v3 = 0 then
      ck (gK M2 p0 = 8) (nm ((1215 : Int32) + ((21 : Int32) * (gI M2 p0 10))) fun v4 =>
      ck (gK M2 p0 = 8) (bR (gR M2 p0 12) fun q5 => ck (gK M2 p0 = 8) (ck (gK M2 q5 = 10 ∧ inb (((12 : Int32) + ((7 : Int32) * (gI M2 p0 10))) + (3 : Int32)) (gN M2 q5)) (ck (gK M2 p0 = 8) (bd (f_X8_numberAt p0 (1 : Int32) (gI M2 q5 ((((12 : Int32) + ((7 : Int32) * (gI M2 p0 10))) + (3 : Int32))).toNatClampNeg) M2) fun v7 M6 =>
      (if ¬ v7 = 0 then
        ck (gK M6 p0 = 8) (bR (gR M6 p0 18) fun q8 => ck (gK M6 p0 = 8) (ck (gK M6 q8 = 10 ∧ inb (v4 + (gI M6 p0 7)) (gN M6 q8)) ((if (gI M6 q8 ((v4 + (gI M6 p0 7))).toNatClampNeg) ≤ 0 then
          ck (gK M6 p0 = 8) (nm (v4 + (gI M6 p0 7)) fun v9 =>
          ck (gK M6 p0 = 8) (bd (f_X8_go p0 M6) fun _ M10 =>
          ck (gK M10 p0 = 8) (bd (f_X8_number p0 (1 : Int32) (999 : Int32) M10) fun v12 M11 =>
          (if ¬ v12 = 0 then
            ck (gK M11 p0 = 8) (bR (gR M11 p0 18) fun q13 => ck (gK M11 p0 = 8) (ck (gK M11 q13 = 10 ∧ inb v9 (gN M11 q13)) (nm (sI M11 q13 (v9).toNatClampNeg (gI M11 p0 10)) fun M14 =>
            ck (gK M14 p0 = 8) (ck (gK M14 p0 = 8) (nm (sI M14 p0 15 ((gI M14 p0 15) + (1 : Int32))) fun M15 =>
            some ((1 : Int32), M15))))))
          else
            some ((0 : Int32), M11)))))
        else
          ck (gK M6 p0 = 8) (bd (f_X8_bad p0 (2 : Int32) M6) fun v17 M16 =>
          ck (v17 = 0 ∨ v17 = 1) (some (v17, M16)))))))
      else
        some ((0 : Int32), M6)))))))
    else
      some ((0 : Int32), M2))))
  else
    ck (gK M p0 = 8) (bd (f_X8_bad p0 (5 : Int32) M) fun v20 M19 =>
    ck (v20 = 0 ∨ v20 = 1) (some (v20, M19)))))
set_option maxRecDepth 20000 in
set_option maxHeartbeats 4000000 in
theorem t_X8_priceLine (p0 : Nat) (M : Mm) (x : Int32) (M' : Mm) (h : f_X8_priceLine p0 M = some (x, M')) : Ctr yX8_priceLine cX8_priceLine 2 (some .boolean) rX8_priceLine (fun _ => [.ref p0]) M (zI x) M' := by
  refine ctr_of (plainFor_of_name (by decide)) (fun _ => Nat.le_of_ble_eq_true rfl) (fun z hz hin hq => ?_)
  have key : Sim z 0 [(0, .ref p0)] [] M 0 0 (f_X8_priceLine p0 M) (fun a b => a = x ∧ b = M') := by
    have hq : Ret z zI (fun a b => a = x ∧ b = M') := fun a b e => by rw [e.1, e.2]; exact hq
    unfold f_X8_priceLine
    refine r_aload_n hz dX8_priceLine_0 0 rfl ?_
    refine r_getI (j := 15) cl8 hz dX8_priceLine_1 (by decide) wm_5_71 rfl ?_
    refine r_bipush (v := 24) hz dX8_priceLine_4 rfl ?_
    refine r_icmp_ne (tgt := 15) hz dX8_priceLine_6 rfl ?_ ?_
    · refine r_aload_n hz dX8_priceLine_15 0 rfl ?_
      refine r_callVv (As := fun _ => []) cl8 hz (fun _ _ h => t_X8_go _ _ _ _ h) cal_X8_go dX8_priceLine_16 wm_5_178 wm_5_180 wm_p_44 rfl rfl (Nat.le_of_ble_eq_true rfl) ⟨(Nat.le_of_ble_eq_true rfl), (Nat.le_of_ble_eq_true rfl)⟩ ⟨(Nat.le_of_ble_eq_true rfl), (Nat.le_of_ble_eq_true rfl)⟩ (fun _ M1 => ?_)
      refine r_aload_n hz dX8_priceLine_19 0 rfl ?_
      refine r_iconst (v := 0) hz dX8_priceLine_20 rfl ?_
      refine r_callVi (As := fun _ => [.int (0 : Int32)]) cl8 hz (fun _ _ h => t_X8_known _ _ _ _ _ h) cal_X8_known dX8_priceLine_21 wm_6_39 wm_6_41 wm_p_61 rfl rfl (Nat.le_of_ble_eq_true rfl) ⟨(Nat.le_of_ble_eq_true rfl), (Nat.le_of_ble_eq_true rfl)⟩ ⟨(Nat.le_of_ble_eq_true rfl), (Nat.le_of_ble_eq_true rfl)⟩ (fun v3 M2 => ?_)
      refine r_if_ne (tgt := 29) hz dX8_priceLine_24 rfl ?_ ?_
      · refine r_sipush (v := 1215) hz dX8_priceLine_29 rfl ?_
        refine r_bipush (v := 21) hz dX8_priceLine_32 rfl ?_
        refine r_aload_n hz dX8_priceLine_34 0 rfl ?_
        refine r_getI (j := 10) cl8 hz dX8_priceLine_35 (by decide) wm_5_66 rfl ?_
        refine r_imul hz dX8_priceLine_38 ?_
        refine r_iadd hz dX8_priceLine_39 ?_
        refine r_nmi (fun v4 => ?_)
        refine r_istore_n (lv' := [(1, .int v4), (0, .ref p0)]) hz dX8_priceLine_40 (by decide) rfl ?_
        refine r_aload_n hz dX8_priceLine_41 1 rfl ?_
        refine r_iconst (v := 1) hz dX8_priceLine_42 rfl ?_
        refine r_aload_n hz dX8_priceLine_43 1 rfl ?_
        refine r_getR (j := 12) cl8 hz dX8_priceLine_44 (by decide) wm_5_68 rfl (fun q5 => ?_)
        refine r_bipush (v := 12) hz dX8_priceLine_47 rfl ?_
        refine r_bipush (v := 7) hz dX8_priceLine_49 rfl ?_
        refine r_aload_n hz dX8_priceLine_51 1 rfl ?_
        refine r_getI (j := 10) cl8 hz dX8_priceLine_52 (by decide) wm_5_66 rfl ?_
        refine r_imul hz dX8_priceLine_55 ?_
        refine r_iadd hz dX8_priceLine_56 ?_
        refine r_iconst (v := 3) hz dX8_priceLine_57 rfl ?_
        refine r_iadd hz dX8_priceLine_58 ?_
        refine r_iald hz dX8_priceLine_59 ?_
        refine r_callVi (As := fun _ => [.int (1 : Int32), .int (gI M2 q5 ((((12 : Int32) + ((7 : Int32) * (gI M2 p0 10))) + (3 : Int32))).toNatClampNeg)]) cl8 hz (fun _ _ h => t_X8_numberAt _ _ _ _ _ _ h) cal_X8_numberAt dX8_priceLine_60 wm_6_22 wm_6_24 wm_p_57 rfl rfl (Nat.le_of_ble_eq_true rfl) ⟨(Nat.le_of_ble_eq_true rfl), (Nat.le_of_ble_eq_true rfl)⟩ ⟨(Nat.le_of_ble_eq_true rfl), (Nat.le_of_ble_eq_true rfl)⟩ (fun v7 M6 => ?_)
        refine r_if_ne (tgt := 68) hz dX8_priceLine_63 rfl ?_ ?_
        · refine r_aload_n hz dX8_priceLine_68 1 rfl ?_
          refine r_getR (j := 18) cl8 hz dX8_priceLine_69 (by decide) wm_5_74 rfl (fun q8 => ?_)
          refine r_iload_n hz dX8_priceLine_72 0 rfl ?_
          refine r_aload_n hz dX8_priceLine_73 1 rfl ?_
          refine r_getI (j := 7) cl8 hz dX8_priceLine_74 (by decide) wm_5_63 rfl ?_
          refine r_iadd hz dX8_priceLine_77 ?_
          refine r_iald hz dX8_priceLine_78 ?_
          refine r_if_le (tgt := 88) hz dX8_priceLine_79 rfl ?_ ?_
          · refine r_iload_n hz dX8_priceLine_88 0 rfl ?_
            refine r_aload_n hz dX8_priceLine_89 1 rfl ?_
            refine r_getI (j := 7) cl8 hz dX8_priceLine_90 (by decide) wm_5_63 rfl ?_
            refine r_iadd hz dX8_priceLine_93 ?_
            refine r_nmi (fun v9 => ?_)
            refine r_istore_n (lv' := [(1, .int v9), (0, .ref p0)]) hz dX8_priceLine_94 (by decide) rfl ?_
            refine r_aload_n hz dX8_priceLine_95 1 rfl ?_
            refine r_callVv (As := fun _ => []) cl8 hz (fun _ _ h => t_X8_go _ _ _ _ h) cal_X8_go dX8_priceLine_96 wm_5_178 wm_5_180 wm_p_44 rfl rfl (Nat.le_of_ble_eq_true rfl) ⟨(Nat.le_of_ble_eq_true rfl), (Nat.le_of_ble_eq_true rfl)⟩ ⟨(Nat.le_of_ble_eq_true rfl), (Nat.le_of_ble_eq_true rfl)⟩ (fun _ M10 => ?_)
            refine r_aload_n hz dX8_priceLine_99 1 rfl ?_
            refine r_iconst (v := 1) hz dX8_priceLine_100 rfl ?_
            refine r_sipush (v := 999) hz dX8_priceLine_101 rfl ?_
            refine r_callVi (As := fun _ => [.int (1 : Int32), .int (999 : Int32)]) cl8 hz (fun _ _ h => t_X8_number _ _ _ _ _ _ h) cal_X8_number dX8_priceLine_104 wm_6_18 wm_6_20 wm_p_56 rfl rfl (Nat.le_of_ble_eq_true rfl) ⟨(Nat.le_of_ble_eq_true rfl), (Nat.le_of_ble_eq_true rfl)⟩ ⟨(Nat.le_of_ble_eq_true rfl), (Nat.le_of_ble_eq_true rfl)⟩ (fun v12 M11 => ?_)
            refine r_if_ne (tgt := 112) hz dX8_priceLine_107 rfl ?_ ?_
            · refine r_aload_n hz dX8_priceLine_112 1 rfl ?_
              refine r_getR (j := 18) cl8 hz dX8_priceLine_113 (by decide) wm_5_74 rfl (fun q13 => ?_)
              refine r_iload_n hz dX8_priceLine_116 0 rfl ?_
              refine r_aload_n hz dX8_priceLine_117 1 rfl ?_
              refine r_getI (j := 10) cl8 hz dX8_priceLine_118 (by decide) wm_5_66 rfl ?_
              refine r_iast hz dX8_priceLine_121 ?_
              refine r_nmM (fun M14 => ?_)
              refine r_aload_n hz dX8_priceLine_122 1 rfl ?_
              refine r_dup hz dX8_priceLine_123 rfl ?_
              refine r_getI (j := 15) cl8 hz dX8_priceLine_124 (by decide) wm_5_71 rfl ?_
              refine r_iconst (v := 1) hz dX8_priceLine_127 rfl ?_
              refine r_iadd hz dX8_priceLine_128 ?_
              refine r_putI (j := 15) cl8 hz dX8_priceLine_129 (by decide) wm_5_71 (Or.inl rfl) rfl rfl rfl ?_
              refine r_nmM (fun M15 => ?_)
              refine r_iconst (v := 1) hz dX8_priceLine_132 rfl ?_
              exact r_zret hz hq dX8_priceLine_133 (Or.inr rfl) (Nat.le_of_ble_eq_true rfl) (Nat.le_of_ble_eq_true rfl)
            · refine r_iconst (v := 0) hz dX8_priceLine_110 rfl ?_
              exact r_zret hz hq dX8_priceLine_111 (Or.inl rfl) (Nat.le_of_ble_eq_true rfl) (Nat.le_of_ble_eq_true rfl)
          · refine r_aload_n hz dX8_priceLine_82 1 rfl ?_
            refine r_iconst (v := 2) hz dX8_priceLine_83 rfl ?_
            refine r_callVi (As := fun _ => [.int (2 : Int32)]) cl8 hz (fun _ _ h => t_X8_bad _ _ _ _ _ h) cal_X8_bad dX8_priceLine_84 wm_5_204 wm_5_206 wm_p_49 rfl rfl (Nat.le_of_ble_eq_true rfl) ⟨(Nat.le_of_ble_eq_true rfl), (Nat.le_of_ble_eq_true rfl)⟩ ⟨(Nat.le_of_ble_eq_true rfl), (Nat.le_of_ble_eq_true rfl)⟩ (fun v17 M16 => ?_)
            refine r_ck (fun h18 => ?_)
            exact r_zret hz hq dX8_priceLine_87 h18 (Nat.le_of_ble_eq_true rfl) (Nat.le_of_ble_eq_true rfl)
        · refine r_iconst (v := 0) hz dX8_priceLine_66 rfl ?_
          exact r_zret hz hq dX8_priceLine_67 (Or.inl rfl) (Nat.le_of_ble_eq_true rfl) (Nat.le_of_ble_eq_true rfl)
      · refine r_iconst (v := 0) hz dX8_priceLine_27 rfl ?_
        exact r_zret hz hq dX8_priceLine_28 (Or.inl rfl) (Nat.le_of_ble_eq_true rfl) (Nat.le_of_ble_eq_true rfl)
    · refine r_aload_n hz dX8_priceLine_9 0 rfl ?_
      refine r_iconst (v := 5) hz dX8_priceLine_10 rfl ?_
      refine r_callVi (As := fun _ => [.int (5 : Int32)]) cl8 hz (fun _ _ h => t_X8_bad _ _ _ _ _ h) cal_X8_bad dX8_priceLine_11 wm_5_204 wm_5_206 wm_p_49 rfl rfl (Nat.le_of_ble_eq_true rfl) ⟨(Nat.le_of_ble_eq_true rfl), (Nat.le_of_ble_eq_true rfl)⟩ ⟨(Nat.le_of_ble_eq_true rfl), (Nat.le_of_ble_eq_true rfl)⟩ (fun v20 M19 => ?_)
      refine r_ck (fun h21 => ?_)
      exact r_zret hz hq dX8_priceLine_14 h21 (Nat.le_of_ble_eq_true rfl) (Nat.le_of_ble_eq_true rfl)
  exact key x M' h ⟨rfl, rfl⟩
