theorem dX3_number_0 : decode cX3_number 0 = .ok (.aload_n 0, 1) := by decide +kernel
theorem dX3_number_1 : decode cX3_number 1 = .ok (.iload_n 3, 1) := by decide +kernel
theorem dX3_number_2 : decode cX3_number 2 = .ok (.iload 4, 2) := by decide +kernel
theorem dX3_number_4 : decode cX3_number 4 = .ok (.invokevirtual 168, 3) := by decide +kernel
theorem dX3_number_7 : decode cX3_number 7 = .ok (.ifCond .ne 5, 3) := by decide +kernel
theorem dX3_number_10 : decode cX3_number 10 = .ok (.iconst 0, 1) := by decide +kernel
theorem dX3_number_11 : decode cX3_number 11 = .ok (.ireturn, 1) := by decide +kernel
theorem dX3_number_12 : decode cX3_number 12 = .ok (.aload_n 1, 1) := by decide +kernel
theorem dX3_number_13 : decode cX3_number 13 = .ok (.iload_n 2, 1) := by decide +kernel
theorem dX3_number_14 : decode cX3_number 14 = .ok (.aload_n 0, 1) := by decide +kernel
theorem dX3_number_15 : decode cX3_number 15 = .ok (.getfield 38, 3) := by decide +kernel
theorem dX3_number_18 : decode cX3_number 18 = .ok (.iastore, 1) := by decide +kernel
theorem dX3_number_19 : decode cX3_number 19 = .ok (.aload_n 0, 1) := by decide +kernel
theorem dX3_number_20 : decode cX3_number 20 = .ok (.invokevirtual 53, 3) := by decide +kernel
theorem dX3_number_23 : decode cX3_number 23 = .ok (.iconst 1, 1) := by decide +kernel
theorem dX3_number_24 : decode cX3_number 24 = .ok (.ireturn, 1) := by decide +kernel
abbrev rX3_number : Room := { frames := 2, cells := 0, slots := 0, locals := 45 }
theorem cal_X3_number : CalOk yX3_number cX3_number 5 (some .boolean) 4 := ⟨wm_3_35, wm_1_4, by decide, by decide, by decide +kernel⟩
def f_X3_number (p0 : Nat) (p1 : Nat) (p2 : Int32) (p3 : Int32) (p4 : Int32) (M : Mm) : Option (Int32 × Mm) :=
  ck (gK M p0 = 3) (bd (f_X3_fits p0 p3 p4 M) fun v2 M1 =>
  (if ¬ v2 = 0 then
    ck (gK M1 p0 = 3) (ck (gK M1 p1 = 10 ∧ inb p2 (gN M1 p1)) (nm (sI M1 p1 (p2).toNatClampNeg (gI M1 p0 7)) fun M3 =>
    ck (gK M3 p0 = 3) (bd (f_X3_advance p0 M3) fun _ M4 =>
    some ((1 : Int32), M4))))
  else
    some ((0 : Int32), M1)))
set_option maxRecDepth 20000 in
set_option maxHeartbeats 4000000 in
theorem t_X3_number (p0 : Nat) (p1 : Nat) (p2 : Int32) (p3 : Int32) (p4 : Int32) (M : Mm) (x : Int32) (M' : Mm) (h : f_X3_number p0 p1 p2 p3 p4 M = some (x, M')) : Ctr yX3_number cX3_number 5 (some .boolean) rX3_number (fun _ => [.ref p0, .ref p1, .int p2, .int p3, .int p4]) M (zI x) M' := by
  refine ctr_of (plainFor_of_name (by decide)) (fun _ => Nat.le_of_ble_eq_true rfl) (fun z hz hin hq => ?_)
  have key : Sim z 0 [(0, .ref p0), (1, .ref p1), (2, .int p2), (3, .int p3), (4, .int p4)] [] M 0 0 (f_X3_number p0 p1 p2 p3 p4 M) (fun a b => a = x ∧ b = M') := by
    have hq : Ret z zI (fun a b => a = x ∧ b = M') := fun a b e => by rw [e.1, e.2]; exact hq
    unfold f_X3_number
    refine r_aload_n hz dX3_number_0 0 rfl ?_
    refine r_iload_n hz dX3_number_1 3 rfl ?_
    refine r_iload hz dX3_number_2 4 rfl ?_
    refine r_callVi (As := fun _ => [.int p3, .int p4]) cl3 hz (fun _ _ h => t_X3_fits _ _ _ _ _ _ h) cal_X3_fits dX3_number_4 wm_3_36 wm_3_38 wm_p_9 rfl rfl (Nat.le_of_ble_eq_true rfl) ⟨(Nat.le_of_ble_eq_true rfl), (Nat.le_of_ble_eq_true rfl)⟩ ⟨(Nat.le_of_ble_eq_true rfl), (Nat.le_of_ble_eq_true rfl)⟩ (fun v2 M1 => ?_)
    refine r_if_ne (tgt := 12) hz dX3_number_7 rfl ?_ ?_
    · refine r_aload_n hz dX3_number_12 1 rfl ?_
      refine r_iload_n hz dX3_number_13 2 rfl ?_
      refine r_aload_n hz dX3_number_14 0 rfl ?_
      refine r_getI (j := 7) cl3 hz dX3_number_15 (by decide) wm_1_205 rfl ?_
      refine r_iast hz dX3_number_18 ?_
      refine r_nmM (fun M3 => ?_)
      refine r_aload_n hz dX3_number_19 0 rfl ?_
      refine r_callVv (As := fun _ => []) cl3 hz (fun _ _ h => t_X3_advance _ _ _ _ h) cal_X3_advance dX3_number_20 wm_2_167 wm_2_169 wm_p_0 rfl rfl (Nat.le_of_ble_eq_true rfl) ⟨(Nat.le_of_ble_eq_true rfl), (Nat.le_of_ble_eq_true rfl)⟩ ⟨(Nat.le_of_ble_eq_true rfl), (Nat.le_of_ble_eq_true rfl)⟩ (fun _ M4 => ?_)
      refine r_iconst (v := 1) hz dX3_number_23 rfl ?_
      exact r_zret hz hq dX3_number_24 (Or.inr rfl) (Nat.le_of_ble_eq_true rfl) (Nat.le_of_ble_eq_true rfl)
    · refine r_iconst (v := 0) hz dX3_number_10 rfl ?_
      exact r_zret hz hq dX3_number_11 (Or.inl rfl) (Nat.le_of_ble_eq_true rfl) (Nat.le_of_ble_eq_true rfl)
  exact key x M' h ⟨rfl, rfl⟩
theorem dX3_readPlan_0 : decode cX3_readPlan 0 = .ok (.aload_n 0, 1) := by decide +kernel
theorem dX3_readPlan_1 : decode cX3_readPlan 1 = .ok (.getfield 25, 3) := by decide +kernel
theorem dX3_readPlan_4 : decode cX3_readPlan 4 = .ok (.getfield 132, 3) := by decide +kernel
theorem dX3_readPlan_7 : decode cX3_readPlan 7 = .ok (.iload_n 1, 1) := by decide +kernel
theorem dX3_readPlan_8 : decode cX3_readPlan 8 = .ok (.iconst 0, 1) := by decide +kernel
theorem dX3_readPlan_9 : decode cX3_readPlan 9 = .ok (.iastore, 1) := by decide +kernel
theorem dX3_readPlan_10 : decode cX3_readPlan 10 = .ok (.aload_n 0, 1) := by decide +kernel
theorem dX3_readPlan_11 : decode cX3_readPlan 11 = .ok (.ldc 135, 2) := by decide +kernel
theorem dX3_readPlan_13 : decode cX3_readPlan 13 = .ok (.invokevirtual 58, 3) := by decide +kernel
theorem dX3_readPlan_16 : decode cX3_readPlan 16 = .ok (.ifCond .eq 33, 3) := by decide +kernel
theorem dX3_readPlan_19 : decode cX3_readPlan 19 = .ok (.aload_n 0, 1) := by decide +kernel
theorem dX3_readPlan_20 : decode cX3_readPlan 20 = .ok (.getfield 25, 3) := by decide +kernel
theorem dX3_readPlan_23 : decode cX3_readPlan 23 = .ok (.getfield 137, 3) := by decide +kernel
theorem dX3_readPlan_26 : decode cX3_readPlan 26 = .ok (.iload_n 1, 1) := by decide +kernel
theorem dX3_readPlan_27 : decode cX3_readPlan 27 = .ok (.iconst 1, 1) := by decide +kernel
theorem dX3_readPlan_28 : decode cX3_readPlan 28 = .ok (.iastore, 1) := by decide +kernel
theorem dX3_readPlan_29 : decode cX3_readPlan 29 = .ok (.aload_n 0, 1) := by decide +kernel
theorem dX3_readPlan_30 : decode cX3_readPlan 30 = .ok (.invokevirtual 53, 3) := by decide +kernel
theorem dX3_readPlan_33 : decode cX3_readPlan 33 = .ok (.aload_n 0, 1) := by decide +kernel
theorem dX3_readPlan_34 : decode cX3_readPlan 34 = .ok (.aload_n 0, 1) := by decide +kernel
theorem dX3_readPlan_35 : decode cX3_readPlan 35 = .ok (.getfield 25, 3) := by decide +kernel
theorem dX3_readPlan_38 : decode cX3_readPlan 38 = .ok (.getfield 132, 3) := by decide +kernel
theorem dX3_readPlan_41 : decode cX3_readPlan 41 = .ok (.iload_n 1, 1) := by decide +kernel
theorem dX3_readPlan_42 : decode cX3_readPlan 42 = .ok (.iconst 1, 1) := by decide +kernel
theorem dX3_readPlan_43 : decode cX3_readPlan 43 = .ok (.ldc 140, 2) := by decide +kernel
theorem dX3_readPlan_45 : decode cX3_readPlan 45 = .ok (.invokevirtual 107, 3) := by decide +kernel
theorem dX3_readPlan_48 : decode cX3_readPlan 48 = .ok (.ireturn, 1) := by decide +kernel
theorem dX3_readPlan_49 : decode cX3_readPlan 49 = .ok (.aload_n 0, 1) := by decide +kernel
theorem dX3_readPlan_50 : decode cX3_readPlan 50 = .ok (.getfield 25, 3) := by decide +kernel
theorem dX3_readPlan_53 : decode cX3_readPlan 53 = .ok (.getfield 137, 3) := by decide +kernel
theorem dX3_readPlan_56 : decode cX3_readPlan 56 = .ok (.iload_n 1, 1) := by decide +kernel
theorem dX3_readPlan_57 : decode cX3_readPlan 57 = .ok (.aload_n 0, 1) := by decide +kernel
theorem dX3_readPlan_58 : decode cX3_readPlan 58 = .ok (.ldc 141, 2) := by decide +kernel
theorem dX3_readPlan_60 : decode cX3_readPlan 60 = .ok (.invokevirtual 58, 3) := by decide +kernel
theorem dX3_readPlan_63 : decode cX3_readPlan 63 = .ok (.ifCond .eq 7, 3) := by decide +kernel
theorem dX3_readPlan_66 : decode cX3_readPlan 66 = .ok (.iconst 0, 1) := by decide +kernel
theorem dX3_readPlan_67 : decode cX3_readPlan 67 = .ok (.goto 4, 3) := by decide +kernel
theorem dX3_readPlan_70 : decode cX3_readPlan 70 = .ok (.iconst 2, 1) := by decide +kernel
theorem dX3_readPlan_71 : decode cX3_readPlan 71 = .ok (.iastore, 1) := by decide +kernel
theorem dX3_readPlan_72 : decode cX3_readPlan 72 = .ok (.aload_n 0, 1) := by decide +kernel
theorem dX3_readPlan_73 : decode cX3_readPlan 73 = .ok (.ldc 141, 2) := by decide +kernel
theorem dX3_readPlan_75 : decode cX3_readPlan 75 = .ok (.invokevirtual 58, 3) := by decide +kernel
theorem dX3_readPlan_78 : decode cX3_readPlan 78 = .ok (.ifCond .eq 12, 3) := by decide +kernel
theorem dX3_readPlan_81 : decode cX3_readPlan 81 = .ok (.aload_n 0, 1) := by decide +kernel
theorem dX3_readPlan_82 : decode cX3_readPlan 82 = .ok (.ldc 141, 2) := by decide +kernel
theorem dX3_readPlan_84 : decode cX3_readPlan 84 = .ok (.invokevirtual 102, 3) := by decide +kernel
theorem dX3_readPlan_87 : decode cX3_readPlan 87 = .ok (.goto 9, 3) := by decide +kernel
theorem dX3_readPlan_90 : decode cX3_readPlan 90 = .ok (.aload_n 0, 1) := by decide +kernel
theorem dX3_readPlan_91 : decode cX3_readPlan 91 = .ok (.ldc 143, 2) := by decide +kernel
theorem dX3_readPlan_93 : decode cX3_readPlan 93 = .ok (.invokevirtual 102, 3) := by decide +kernel
theorem dX3_readPlan_96 : decode cX3_readPlan 96 = .ok (.ireturn, 1) := by decide +kernel
abbrev rX3_readPlan : Room := { frames := 8, cells := 0, slots := 0, locals := 194 }
theorem cal_X3_readPlan : CalOk yX3_readPlan cX3_readPlan 2 (some .boolean) 1 := ⟨wm_3_43, wm_1_4, by decide, by decide, by decide +kernel⟩
def f_X3_readPlan_71 (x0 : Nat) (y0 : Int32) (y1 : Int32) (y2 : Nat) (M : Mm) : Option (Int32 × Mm) :=
  ck (gK M y2 = 10 ∧ inb y1 (gN M y2)) (nm (sI M y2 (y1).toNatClampNeg y0) fun M1 =>
  ck (gK M1 x0 = 3) (bd (f_X3_spells x0 5 M1) fun v3 M2 =>
  (if v3 = 0 then
    ck (gK M2 x0 = 3) (bd (f_X3_word x0 6 M2) fun v5 M4 =>
    ck (v5 = 0 ∨ v5 = 1) (some (v5, M4)))
  else
    ck (gK M2 x0 = 3) (bd (f_X3_word x0 5 M2) fun v8 M7 =>
    ck (v8 = 0 ∨ v8 = 1) (some (v8, M7))))))
set_option maxRecDepth 20000 in
set_option maxHeartbeats 4000000 in
theorem s_X3_readPlan_71 {z : Zt} {K : Int32 → Mm → Prop} (hz : Good z RX3 cX3_readPlan 2 rX3_readPlan (some .boolean)) (hq : Ret z zI K) : ∀ (x0 : Nat) (y0 : Int32) (y1 : Int32) (y2 : Nat) (M : Mm), Sim z 71 [(0, .ref x0)] [.int y0, .int y1, .ref y2] M 0 0 (f_X3_readPlan_71 x0 y0 y1 y2 M) K := by
  intro x0 y0 y1 y2 M
  unfold f_X3_readPlan_71
  refine r_iast hz dX3_readPlan_71 ?_
  refine r_nmM (fun M1 => ?_)
  refine r_aload_n hz dX3_readPlan_72 0 rfl ?_
  refine r_ldcS hz dX3_readPlan_73 5 rfl ?_
  refine r_callVi (As := fun g => [.ref (g.2.2.2.1 5)]) cl3 hz (fun _ _ h => t_X3_spells _ _ _ _ _ h) cal_X3_spells dX3_readPlan_75 wm_2_179 wm_2_181 wm_p_2 rfl rfl (Nat.le_of_ble_eq_true rfl) ⟨(Nat.le_of_ble_eq_true rfl), (Nat.le_of_ble_eq_true rfl)⟩ ⟨(Nat.le_of_ble_eq_true rfl), (Nat.le_of_ble_eq_true rfl)⟩ (fun v3 M2 => ?_)
  refine r_if_eq (tgt := 90) hz dX3_readPlan_78 rfl ?_ ?_
  · refine r_aload_n hz dX3_readPlan_90 0 rfl ?_
    refine r_ldcS hz dX3_readPlan_91 6 rfl ?_
    refine r_callVi (As := fun g => [.ref (g.2.2.2.1 6)]) cl3 hz (fun _ _ h => t_X3_word _ _ _ _ _ h) cal_X3_word dX3_readPlan_93 wm_3_28 wm_3_30 wm_p_7 rfl rfl (Nat.le_of_ble_eq_true rfl) ⟨(Nat.le_of_ble_eq_true rfl), (Nat.le_of_ble_eq_true rfl)⟩ ⟨(Nat.le_of_ble_eq_true rfl), (Nat.le_of_ble_eq_true rfl)⟩ (fun v5 M4 => ?_)
    refine r_ck (fun h6 => ?_)
    exact r_zret hz hq dX3_readPlan_96 h6 (Nat.le_of_ble_eq_true rfl) (Nat.le_of_ble_eq_true rfl)
  · refine r_aload_n hz dX3_readPlan_81 0 rfl ?_
    refine r_ldcS hz dX3_readPlan_82 5 rfl ?_
    refine r_callVi (As := fun g => [.ref (g.2.2.2.1 5)]) cl3 hz (fun _ _ h => t_X3_word _ _ _ _ _ h) cal_X3_word dX3_readPlan_84 wm_3_28 wm_3_30 wm_p_7 rfl rfl (Nat.le_of_ble_eq_true rfl) ⟨(Nat.le_of_ble_eq_true rfl), (Nat.le_of_ble_eq_true rfl)⟩ ⟨(Nat.le_of_ble_eq_true rfl), (Nat.le_of_ble_eq_true rfl)⟩ (fun v8 M7 => ?_)
    refine r_goto (tgt := 96) hz dX3_readPlan_87 rfl ?_
    refine r_ck (fun h9 => ?_)
    exact r_zret hz hq dX3_readPlan_96 h9 (Nat.le_of_ble_eq_true rfl) (Nat.le_of_ble_eq_true rfl)
def f_X3_readPlan (p0 : Nat) (p1 : Int32) (M : Mm) : Option (Int32 × Mm) :=
  ck (gK M p0 = 3) (bR (gR M p0 3) fun q1 => ck (gK M q1 = 6) (bR (gR M q1 11) fun q2 => ck (gK M q2 = 10 ∧ inb p1 (gN M q2)) (nm (sI M q2 (p1).toNatClampNeg (0 : Int32)) fun M3 =>
  ck (gK M3 p0 = 3) (bd (f_X3_spells p0 7 M3) fun v5 M4 =>
  (if v5 = 0 then
    ck (gK M4 p0 = 3) (bR (gR M4 p0 3) fun q6 => ck (gK M4 q6 = 6) (bR (gR M4 q6 10) fun q7 => ck (gK M4 p0 = 3) (bd (f_X3_spells p0 5 M4) fun v9 M8 =>
    (if v9 = 0 then
      f_X3_readPlan_71 p0 (2 : Int32) p1 q7 M8
    else
      f_X3_readPlan_71 p0 (0 : Int32) p1 q7 M8))))
  else
    ck (gK M4 p0 = 3) (bR (gR M4 p0 3) fun q10 => ck (gK M4 q10 = 6) (bR (gR M4 q10 10) fun q11 => ck (gK M4 q11 = 10 ∧ inb p1 (gN M4 q11)) (nm (sI M4 q11 (p1).toNatClampNeg (1 : Int32)) fun M12 =>
    ck (gK M12 p0 = 3) (bd (f_X3_advance p0 M12) fun _ M13 =>
    ck (gK M13 p0 = 3) (bR (gR M13 p0 3) fun q14 => ck (gK M13 q14 = 6) (bR (gR M13 q14 11) fun q15 => ck (gK M13 p0 = 3) (bd (f_X3_number p0 q15 p1 (1 : Int32) (99999 : Int32) M13) fun v17 M16 =>
    ck (v17 = 0 ∨ v17 = 1) (some (v17, M16))))))))))))))
set_option maxRecDepth 20000 in
set_option maxHeartbeats 4000000 in
theorem t_X3_readPlan (p0 : Nat) (p1 : Int32) (M : Mm) (x : Int32) (M' : Mm) (h : f_X3_readPlan p0 p1 M = some (x, M')) : Ctr yX3_readPlan cX3_readPlan 2 (some .boolean) rX3_readPlan (fun _ => [.ref p0, .int p1]) M (zI x) M' := by
  refine ctr_of (plainFor_of_name (by decide)) (fun _ => Nat.le_of_ble_eq_true rfl) (fun z hz hin hq => ?_)
  have key : Sim z 0 [(0, .ref p0), (1, .int p1)] [] M 0 0 (f_X3_readPlan p0 p1 M) (fun a b => a = x ∧ b = M') := by
    have hq : Ret z zI (fun a b => a = x ∧ b = M') := fun a b e => by rw [e.1, e.2]; exact hq
    unfold f_X3_readPlan
    refine r_aload_n hz dX3_readPlan_0 0 rfl ?_
    refine r_getR (j := 3) cl3 hz dX3_readPlan_1 (by decide) wm_1_201 rfl (fun q1 => ?_)
    refine r_getR (j := 11) cl6 hz dX3_readPlan_4 (by decide) wm_1_78 rfl (fun q2 => ?_)
    refine r_iload_n hz dX3_readPlan_7 1 rfl ?_
    refine r_iconst (v := 0) hz dX3_readPlan_8 rfl ?_
    refine r_iast hz dX3_readPlan_9 ?_
    refine r_nmM (fun M3 => ?_)
    refine r_aload_n hz dX3_readPlan_10 0 rfl ?_
    refine r_ldcS hz dX3_readPlan_11 7 rfl ?_
    refine r_callVi (As := fun g => [.ref (g.2.2.2.1 7)]) cl3 hz (fun _ _ h => t_X3_spells _ _ _ _ _ h) cal_X3_spells dX3_readPlan_13 wm_2_179 wm_2_181 wm_p_2 rfl rfl (Nat.le_of_ble_eq_true rfl) ⟨(Nat.le_of_ble_eq_true rfl), (Nat.le_of_ble_eq_true rfl)⟩ ⟨(Nat.le_of_ble_eq_true rfl), (Nat.le_of_ble_eq_true rfl)⟩ (fun v5 M4 => ?_)
    refine r_if_eq (tgt := 49) hz dX3_readPlan_16 rfl ?_ ?_
    · refine r_aload_n hz dX3_readPlan_49 0 rfl ?_
      refine r_getR (j := 3) cl3 hz dX3_readPlan_50 (by decide) wm_1_201 rfl (fun q6 => ?_)
      refine r_getR (j := 10) cl6 hz dX3_readPlan_53 (by decide) wm_1_74 rfl (fun q7 => ?_)
      refine r_iload_n hz dX3_readPlan_56 1 rfl ?_
      refine r_aload_n hz dX3_readPlan_57 0 rfl ?_
      refine r_ldcS hz dX3_readPlan_58 5 rfl ?_
      refine r_callVi (As := fun g => [.ref (g.2.2.2.1 5)]) cl3 hz (fun _ _ h => t_X3_spells _ _ _ _ _ h) cal_X3_spells dX3_readPlan_60 wm_2_179 wm_2_181 wm_p_2 rfl rfl (Nat.le_of_ble_eq_true rfl) ⟨(Nat.le_of_ble_eq_true rfl), (Nat.le_of_ble_eq_true rfl)⟩ ⟨(Nat.le_of_ble_eq_true rfl), (Nat.le_of_ble_eq_true rfl)⟩ (fun v9 M8 => ?_)
      refine r_if_eq (tgt := 70) hz dX3_readPlan_63 rfl ?_ ?_
      · refine r_iconst (v := 2) hz dX3_readPlan_70 rfl ?_
        refine r_sub [0] rfl ?_
        exact s_X3_readPlan_71 hz hq p0 (2 : Int32) p1 q7 M8
      · refine r_iconst (v := 0) hz dX3_readPlan_66 rfl ?_
        refine r_goto (tgt := 71) hz dX3_readPlan_67 rfl ?_
        refine r_sub [0] rfl ?_
        exact s_X3_readPlan_71 hz hq p0 (0 : Int32) p1 q7 M8
    · refine r_aload_n hz dX3_readPlan_19 0 rfl ?_
      refine r_getR (j := 3) cl3 hz dX3_readPlan_20 (by decide) wm_1_201 rfl (fun q10 => ?_)
      refine r_getR (j := 10) cl6 hz dX3_readPlan_23 (by decide) wm_1_74 rfl (fun q11 => ?_)
      refine r_iload_n hz dX3_readPlan_26 1 rfl ?_
      refine r_iconst (v := 1) hz dX3_readPlan_27 rfl ?_
      refine r_iast hz dX3_readPlan_28 ?_
      refine r_nmM (fun M12 => ?_)
      refine r_aload_n hz dX3_readPlan_29 0 rfl ?_
      refine r_callVv (As := fun _ => []) cl3 hz (fun _ _ h => t_X3_advance _ _ _ _ h) cal_X3_advance dX3_readPlan_30 wm_2_167 wm_2_169 wm_p_0 rfl rfl (Nat.le_of_ble_eq_true rfl) ⟨(Nat.le_of_ble_eq_true rfl), (Nat.le_of_ble_eq_true rfl)⟩ ⟨(Nat.le_of_ble_eq_true rfl), (Nat.le_of_ble_eq_true rfl)⟩ (fun _ M13 => ?_)
      refine r_aload_n hz dX3_readPlan_33 0 rfl ?_
      refine r_aload_n hz dX3_readPlan_34 0 rfl ?_
      refine r_getR (j := 3) cl3 hz dX3_readPlan_35 (by decide) wm_1_201 rfl (fun q14 => ?_)
      refine r_getR (j := 11) cl6 hz dX3_readPlan_38 (by decide) wm_1_78 rfl (fun q15 => ?_)
      refine r_iload_n hz dX3_readPlan_41 1 rfl ?_
      refine r_iconst (v := 1) hz dX3_readPlan_42 rfl ?_
      refine r_ldc (v := 99999) hz dX3_readPlan_43 wm_3_44 ?_
      refine r_callVi (As := fun _ => [.ref q15, .int p1, .int (1 : Int32), .int (99999 : Int32)]) cl3 hz (fun _ _ h => t_X3_number _ _ _ _ _ _ _ _ h) cal_X3_number dX3_readPlan_45 wm_3_32 wm_3_34 wm_p_8 rfl rfl (Nat.le_of_ble_eq_true rfl) ⟨(Nat.le_of_ble_eq_true rfl), (Nat.le_of_ble_eq_true rfl)⟩ ⟨(Nat.le_of_ble_eq_true rfl), (Nat.le_of_ble_eq_true rfl)⟩ (fun v17 M16 => ?_)
      refine r_ck (fun h18 => ?_)
      exact r_zret hz hq dX3_readPlan_48 h18 (Nat.le_of_ble_eq_true rfl) (Nat.le_of_ble_eq_true rfl)
  exact key x M' h ⟨rfl, rfl⟩
theorem dX3_readLapse_0 : decode cX3_readLapse 0 = .ok (.aload_n 0, 1) := by decide +kernel
theorem dX3_readLapse_1 : decode cX3_readLapse 1 = .ok (.getfield 25, 3) := by decide +kernel
theorem dX3_readLapse_4 : decode cX3_readLapse 4 = .ok (.getfield 144, 3) := by decide +kernel
theorem dX3_readLapse_7 : decode cX3_readLapse 7 = .ok (.iload_n 1, 1) := by decide +kernel
theorem dX3_readLapse_8 : decode cX3_readLapse 8 = .ok (.bipush 20, 2) := by decide +kernel
theorem dX3_readLapse_10 : decode cX3_readLapse 10 = .ok (.iastore, 1) := by decide +kernel
theorem dX3_readLapse_11 : decode cX3_readLapse 11 = .ok (.aload_n 0, 1) := by decide +kernel
theorem dX3_readLapse_12 : decode cX3_readLapse 12 = .ok (.ldc 147, 2) := by decide +kernel
theorem dX3_readLapse_14 : decode cX3_readLapse 14 = .ok (.invokevirtual 58, 3) := by decide +kernel
theorem dX3_readLapse_17 : decode cX3_readLapse 17 = .ok (.ifCond .ne 5, 3) := by decide +kernel
theorem dX3_readLapse_20 : decode cX3_readLapse 20 = .ok (.iconst 1, 1) := by decide +kernel
theorem dX3_readLapse_21 : decode cX3_readLapse 21 = .ok (.ireturn, 1) := by decide +kernel
theorem dX3_readLapse_22 : decode cX3_readLapse 22 = .ok (.aload_n 0, 1) := by decide +kernel
theorem dX3_readLapse_23 : decode cX3_readLapse 23 = .ok (.invokevirtual 53, 3) := by decide +kernel
theorem dX3_readLapse_26 : decode cX3_readLapse 26 = .ok (.aload_n 0, 1) := by decide +kernel
theorem dX3_readLapse_27 : decode cX3_readLapse 27 = .ok (.aload_n 0, 1) := by decide +kernel
theorem dX3_readLapse_28 : decode cX3_readLapse 28 = .ok (.getfield 25, 3) := by decide +kernel
theorem dX3_readLapse_31 : decode cX3_readLapse 31 = .ok (.getfield 144, 3) := by decide +kernel
theorem dX3_readLapse_34 : decode cX3_readLapse 34 = .ok (.iload_n 1, 1) := by decide +kernel
theorem dX3_readLapse_35 : decode cX3_readLapse 35 = .ok (.iconst 1, 1) := by decide +kernel
theorem dX3_readLapse_36 : decode cX3_readLapse 36 = .ok (.bipush 20, 2) := by decide +kernel
theorem dX3_readLapse_38 : decode cX3_readLapse 38 = .ok (.invokevirtual 107, 3) := by decide +kernel
theorem dX3_readLapse_41 : decode cX3_readLapse 41 = .ok (.ireturn, 1) := by decide +kernel
abbrev rX3_readLapse : Room := { frames := 7, cells := 0, slots := 0, locals := 173 }
theorem cal_X3_readLapse : CalOk yX3_readLapse cX3_readLapse 2 (some .boolean) 1 := ⟨wm_3_48, wm_1_4, by decide, by decide, by decide +kernel⟩
def f_X3_readLapse (p0 : Nat) (p1 : Int32) (M : Mm) : Option (Int32 × Mm) :=
  ck (gK M p0 = 3) (bR (gR M p0 3) fun q1 => ck (gK M q1 = 6) (bR (gR M q1 12) fun q2 => ck (gK M q2 = 10 ∧ inb p1 (gN M q2)) (nm (sI M q2 (p1).toNatClampNeg (20 : Int32)) fun M3 =>
  ck (gK M3 p0 = 3) (bd (f_X3_spells p0 8 M3) fun v5 M4 =>
  (if ¬ v5 = 0 then
    ck (gK M4 p0 = 3) (bd (f_X3_advance p0 M4) fun _ M6 =>
    ck (gK M6 p0 = 3) (bR (gR M6 p0 3) fun q7 => ck (gK M6 q7 = 6) (bR (gR M6 q7 12) fun q8 => ck (gK M6 p0 = 3) (bd (f_X3_number p0 q8 p1 (1 : Int32) (20 : Int32) M6) fun v10 M9 =>
    ck (v10 = 0 ∨ v10 = 1) (some (v10, M9))))))
  else
    some ((1 : Int32), M4))))))
set_option maxRecDepth 20000 in
set_option maxHeartbeats 4000000 in
theorem t_X3_readLapse (p0 : Nat) (p1 : Int32) (M : Mm) (x : Int32) (M' : Mm) (h : f_X3_readLapse p0 p1 M = some (x, M')) : Ctr yX3_readLapse cX3_readLapse 2 (some .boolean) rX3_readLapse (fun _ => [.ref p0, .int p1]) M (zI x) M' := by
  refine ctr_of (plainFor_of_name (by decide)) (fun _ => Nat.le_of_ble_eq_true rfl) (fun z hz hin hq => ?_)
  have key : Sim z 0 [(0, .ref p0), (1, .int p1)] [] M 0 0 (f_X3_readLapse p0 p1 M) (fun a b => a = x ∧ b = M') := by
    have hq : Ret z zI (fun a b => a = x ∧ b = M') := fun a b e => by rw [e.1, e.2]; exact hq
    unfold f_X3_readLapse
    refine r_aload_n hz dX3_readLapse_0 0 rfl ?_
    refine r_getR (j := 3) cl3 hz dX3_readLapse_1 (by decide) wm_1_201 rfl (fun q1 => ?_)
    refine r_getR (j := 12) cl6 hz dX3_readLapse_4 (by decide) wm_1_81 rfl (fun q2 => ?_)
    refine r_iload_n hz dX3_readLapse_7 1 rfl ?_
    refine r_bipush (v := 20) hz dX3_readLapse_8 rfl ?_
    refine r_iast hz dX3_readLapse_10 ?_
    refine r_nmM (fun M3 => ?_)
    refine r_aload_n hz dX3_readLapse_11 0 rfl ?_
    refine r_ldcS hz dX3_readLapse_12 8 rfl ?_
    refine r_callVi (As := fun g => [.ref (g.2.2.2.1 8)]) cl3 hz (fun _ _ h => t_X3_spells _ _ _ _ _ h) cal_X3_spells dX3_readLapse_14 wm_2_179 wm_2_181 wm_p_2 rfl rfl (Nat.le_of_ble_eq_true rfl) ⟨(Nat.le_of_ble_eq_true rfl), (Nat.le_of_ble_eq_true rfl)⟩ ⟨(Nat.le_of_ble_eq_true rfl), (Nat.le_of_ble_eq_true rfl)⟩ (fun v5 M4 => ?_)
    refine r_if_ne (tgt := 22) hz dX3_readLapse_17 rfl ?_ ?_
    · refine r_aload_n hz dX3_readLapse_22 0 rfl ?_
      refine r_callVv (As := fun _ => []) cl3 hz (fun _ _ h => t_X3_advance _ _ _ _ h) cal_X3_advance dX3_readLapse_23 wm_2_167 wm_2_169 wm_p_0 rfl rfl (Nat.le_of_ble_eq_true rfl) ⟨(Nat.le_of_ble_eq_true rfl), (Nat.le_of_ble_eq_true rfl)⟩ ⟨(Nat.le_of_ble_eq_true rfl), (Nat.le_of_ble_eq_true rfl)⟩ (fun _ M6 => ?_)
      refine r_aload_n hz dX3_readLapse_26 0 rfl ?_
      refine r_aload_n hz dX3_readLapse_27 0 rfl ?_
      refine r_getR (j := 3) cl3 hz dX3_readLapse_28 (by decide) wm_1_201 rfl (fun q7 => ?_)
      refine r_getR (j := 12) cl6 hz dX3_readLapse_31 (by decide) wm_1_81 rfl (fun q8 => ?_)
      refine r_iload_n hz dX3_readLapse_34 1 rfl ?_
      refine r_iconst (v := 1) hz dX3_readLapse_35 rfl ?_
      refine r_bipush (v := 20) hz dX3_readLapse_36 rfl ?_
      refine r_callVi (As := fun _ => [.ref q8, .int p1, .int (1 : Int32), .int (20 : Int32)]) cl3 hz (fun _ _ h => t_X3_number _ _ _ _ _ _ _ _ h) cal_X3_number dX3_readLapse_38 wm_3_32 wm_3_34 wm_p_8 rfl rfl (Nat.le_of_ble_eq_true rfl) ⟨(Nat.le_of_ble_eq_true rfl), (Nat.le_of_ble_eq_true rfl)⟩ ⟨(Nat.le_of_ble_eq_true rfl), (Nat.le_of_ble_eq_true rfl)⟩ (fun v10 M9 => ?_)
      refine r_ck (fun h11 => ?_)
      exact r_zret hz hq dX3_readLapse_41 h11 (Nat.le_of_ble_eq_true rfl) (Nat.le_of_ble_eq_true rfl)
    · refine r_iconst (v := 1) hz dX3_readLapse_20 rfl ?_
      exact r_zret hz hq dX3_readLapse_21 (Or.inr rfl) (Nat.le_of_ble_eq_true rfl) (Nat.le_of_ble_eq_true rfl)
  exact key x M' h ⟨rfl, rfl⟩
theorem dX3_sign_0 : decode cX3_sign 0 = .ok (.aload_n 0, 1) := by decide +kernel
theorem dX3_sign_1 : decode cX3_sign 1 = .ok (.getfield 29, 3) := by decide +kernel
theorem dX3_sign_4 : decode cX3_sign 4 = .ok (.iconst 3, 1) := by decide +kernel
theorem dX3_sign_5 : decode cX3_sign 5 = .ok (.if_icmp .eq 9, 3) := by decide +kernel
theorem dX3_sign_8 : decode cX3_sign 8 = .ok (.aload_n 0, 1) := by decide +kernel
theorem dX3_sign_9 : decode cX3_sign 9 = .ok (.iconst 1, 1) := by decide +kernel
theorem dX3_sign_10 : decode cX3_sign 10 = .ok (.invokevirtual 86, 3) := by decide +kernel
theorem dX3_sign_13 : decode cX3_sign 13 = .ok (.ireturn, 1) := by decide +kernel
theorem dX3_sign_14 : decode cX3_sign 14 = .ok (.aload_n 0, 1) := by decide +kernel
theorem dX3_sign_15 : decode cX3_sign 15 = .ok (.invokevirtual 53, 3) := by decide +kernel
theorem dX3_sign_18 : decode cX3_sign 18 = .ok (.iconst 1, 1) := by decide +kernel
theorem dX3_sign_19 : decode cX3_sign 19 = .ok (.ireturn, 1) := by decide +kernel
abbrev rX3_sign : Room := { frames := 2, cells := 0, slots := 0, locals := 45 }
theorem cal_X3_sign : CalOk yX3_sign cX3_sign 1 (some .boolean) 0 := ⟨wm_3_52, wm_1_4, by decide, by decide, by decide +kernel⟩
def f_X3_sign (p0 : Nat) (M : Mm) : Option (Int32 × Mm) :=
  ck (gK M p0 = 3) ((if (gI M p0 4) = (3 : Int32) then
    ck (gK M p0 = 3) (bd (f_X3_advance p0 M) fun _ M1 =>
    some ((1 : Int32), M1))
  else
    ck (gK M p0 = 3) (bd (f_X3_refuse p0 (1 : Int32) M) fun v3 M2 =>
    ck (v3 = 0 ∨ v3 = 1) (some (v3, M2)))))
set_option maxRecDepth 20000 in
set_option maxHeartbeats 4000000 in
theorem t_X3_sign (p0 : Nat) (M : Mm) (x : Int32) (M' : Mm) (h : f_X3_sign p0 M = some (x, M')) : Ctr yX3_sign cX3_sign 1 (some .boolean) rX3_sign (fun _ => [.ref p0]) M (zI x) M' := by
  refine ctr_of (plainFor_of_name (by decide)) (fun _ => Nat.le_of_ble_eq_true rfl) (fun z hz hin hq => ?_)
  have key : Sim z 0 [(0, .ref p0)] [] M 0 0 (f_X3_sign p0 M) (fun a b => a = x ∧ b = M') := by
    have hq : Ret z zI (fun a b => a = x ∧ b = M') := fun a b e => by rw [e.1, e.2]; exact hq
    unfold f_X3_sign
    refine r_aload_n hz dX3_sign_0 0 rfl ?_
    refine r_getI (j := 4) cl3 hz dX3_sign_1 (by decide) wm_1_202 rfl ?_
    refine r_iconst (v := 3) hz dX3_sign_4 rfl ?_
    refine r_icmp_eq (tgt := 14) hz dX3_sign_5 rfl ?_ ?_
    · refine r_aload_n hz dX3_sign_14 0 rfl ?_
      refine r_callVv (As := fun _ => []) cl3 hz (fun _ _ h => t_X3_advance _ _ _ _ h) cal_X3_advance dX3_sign_15 wm_2_167 wm_2_169 wm_p_0 rfl rfl (Nat.le_of_ble_eq_true rfl) ⟨(Nat.le_of_ble_eq_true rfl), (Nat.le_of_ble_eq_true rfl)⟩ ⟨(Nat.le_of_ble_eq_true rfl), (Nat.le_of_ble_eq_true rfl)⟩ (fun _ M1 => ?_)
      refine r_iconst (v := 1) hz dX3_sign_18 rfl ?_
      exact r_zret hz hq dX3_sign_19 (Or.inr rfl) (Nat.le_of_ble_eq_true rfl) (Nat.le_of_ble_eq_true rfl)
    · refine r_aload_n hz dX3_sign_8 0 rfl ?_
      refine r_iconst (v := 1) hz dX3_sign_9 rfl ?_
      refine r_callVi (As := fun _ => [.int (1 : Int32)]) cl3 hz (fun _ _ h => t_X3_refuse _ _ _ _ _ h) cal_X3_refuse dX3_sign_10 wm_2_235 wm_2_237 wm_p_4 rfl rfl (Nat.le_of_ble_eq_true rfl) ⟨(Nat.le_of_ble_eq_true rfl), (Nat.le_of_ble_eq_true rfl)⟩ ⟨(Nat.le_of_ble_eq_true rfl), (Nat.le_of_ble_eq_true rfl)⟩ (fun v3 M2 => ?_)
      refine r_ck (fun h4 => ?_)
      exact r_zret hz hq dX3_sign_13 h4 (Nat.le_of_ble_eq_true rfl) (Nat.le_of_ble_eq_true rfl)
  exact key x M' h ⟨rfl, rfl⟩
theorem dX3_readLoan_0 : decode cX3_readLoan 0 = .ok (.aload_n 0, 1) := by decide +kernel
theorem dX3_readLoan_1 : decode cX3_readLoan 1 = .ok (.getfield 25, 3) := by decide +kernel
theorem dX3_readLoan_4 : decode cX3_readLoan 4 = .ok (.getfield 90, 3) := by decide +kernel
theorem dX3_readLoan_7 : decode cX3_readLoan 7 = .ok (.istore_n 1, 1) := by decide +kernel
theorem dX3_readLoan_8 : decode cX3_readLoan 8 = .ok (.iload_n 1, 1) := by decide +kernel
theorem dX3_readLoan_9 : decode cX3_readLoan 9 = .ok (.iconst 4, 1) := by decide +kernel
theorem dX3_readLoan_10 : decode cX3_readLoan 10 = .ok (.if_icmp .lt 9, 3) := by decide +kernel
theorem dX3_readLoan_13 : decode cX3_readLoan 13 = .ok (.aload_n 0, 1) := by decide +kernel
theorem dX3_readLoan_14 : decode cX3_readLoan 14 = .ok (.iconst 5, 1) := by decide +kernel
theorem dX3_readLoan_15 : decode cX3_readLoan 15 = .ok (.invokevirtual 86, 3) := by decide +kernel
theorem dX3_readLoan_18 : decode cX3_readLoan 18 = .ok (.ireturn, 1) := by decide +kernel
theorem dX3_readLoan_19 : decode cX3_readLoan 19 = .ok (.aload_n 0, 1) := by decide +kernel
theorem dX3_readLoan_20 : decode cX3_readLoan 20 = .ok (.invokevirtual 53, 3) := by decide +kernel
theorem dX3_readLoan_23 : decode cX3_readLoan 23 = .ok (.aload_n 0, 1) := by decide +kernel
theorem dX3_readLoan_24 : decode cX3_readLoan 24 = .ok (.aload_n 0, 1) := by decide +kernel
theorem dX3_readLoan_25 : decode cX3_readLoan 25 = .ok (.getfield 25, 3) := by decide +kernel
theorem dX3_readLoan_28 : decode cX3_readLoan 28 = .ok (.getfield 93, 3) := by decide +kernel
theorem dX3_readLoan_31 : decode cX3_readLoan 31 = .ok (.iload_n 1, 1) := by decide +kernel
theorem dX3_readLoan_32 : decode cX3_readLoan 32 = .ok (.invokevirtual 96, 3) := by decide +kernel
theorem dX3_readLoan_35 : decode cX3_readLoan 35 = .ok (.ifCond .eq 139, 3) := by decide +kernel
theorem dX3_readLoan_38 : decode cX3_readLoan 38 = .ok (.aload_n 0, 1) := by decide +kernel
theorem dX3_readLoan_39 : decode cX3_readLoan 39 = .ok (.ldc 100, 2) := by decide +kernel
theorem dX3_readLoan_41 : decode cX3_readLoan 41 = .ok (.invokevirtual 102, 3) := by decide +kernel
theorem dX3_readLoan_44 : decode cX3_readLoan 44 = .ok (.ifCond .eq 130, 3) := by decide +kernel
theorem dX3_readLoan_47 : decode cX3_readLoan 47 = .ok (.aload_n 0, 1) := by decide +kernel
theorem dX3_readLoan_48 : decode cX3_readLoan 48 = .ok (.aload_n 0, 1) := by decide +kernel
theorem dX3_readLoan_49 : decode cX3_readLoan 49 = .ok (.getfield 25, 3) := by decide +kernel
theorem dX3_readLoan_52 : decode cX3_readLoan 52 = .ok (.getfield 105, 3) := by decide +kernel
theorem dX3_readLoan_55 : decode cX3_readLoan 55 = .ok (.iload_n 1, 1) := by decide +kernel
theorem dX3_readLoan_56 : decode cX3_readLoan 56 = .ok (.iconst 1, 1) := by decide +kernel
theorem dX3_readLoan_57 : decode cX3_readLoan 57 = .ok (.bipush 60, 2) := by decide +kernel
theorem dX3_readLoan_59 : decode cX3_readLoan 59 = .ok (.invokevirtual 107, 3) := by decide +kernel
theorem dX3_readLoan_62 : decode cX3_readLoan 62 = .ok (.ifCond .eq 112, 3) := by decide +kernel
theorem dX3_readLoan_65 : decode cX3_readLoan 65 = .ok (.aload_n 0, 1) := by decide +kernel
theorem dX3_readLoan_66 : decode cX3_readLoan 66 = .ok (.ldc 111, 2) := by decide +kernel
theorem dX3_readLoan_68 : decode cX3_readLoan 68 = .ok (.invokevirtual 102, 3) := by decide +kernel
theorem dX3_readLoan_71 : decode cX3_readLoan 71 = .ok (.ifCond .eq 103, 3) := by decide +kernel
theorem dX3_readLoan_74 : decode cX3_readLoan 74 = .ok (.aload_n 0, 1) := by decide +kernel
theorem dX3_readLoan_75 : decode cX3_readLoan 75 = .ok (.aload_n 0, 1) := by decide +kernel
theorem dX3_readLoan_76 : decode cX3_readLoan 76 = .ok (.getfield 25, 3) := by decide +kernel
theorem dX3_readLoan_79 : decode cX3_readLoan 79 = .ok (.getfield 113, 3) := by decide +kernel
theorem dX3_readLoan_82 : decode cX3_readLoan 82 = .ok (.iload_n 1, 1) := by decide +kernel
theorem dX3_readLoan_83 : decode cX3_readLoan 83 = .ok (.iconst 1, 1) := by decide +kernel
theorem dX3_readLoan_84 : decode cX3_readLoan 84 = .ok (.sipush 999, 3) := by decide +kernel
theorem dX3_readLoan_87 : decode cX3_readLoan 87 = .ok (.invokevirtual 107, 3) := by decide +kernel
theorem dX3_readLoan_90 : decode cX3_readLoan 90 = .ok (.ifCond .eq 84, 3) := by decide +kernel
theorem dX3_readLoan_93 : decode cX3_readLoan 93 = .ok (.aload_n 0, 1) := by decide +kernel
theorem dX3_readLoan_94 : decode cX3_readLoan 94 = .ok (.ldc 115, 2) := by decide +kernel
theorem dX3_readLoan_96 : decode cX3_readLoan 96 = .ok (.invokevirtual 102, 3) := by decide +kernel
theorem dX3_readLoan_99 : decode cX3_readLoan 99 = .ok (.ifCond .eq 75, 3) := by decide +kernel
theorem dX3_readLoan_102 : decode cX3_readLoan 102 = .ok (.aload_n 0, 1) := by decide +kernel
theorem dX3_readLoan_103 : decode cX3_readLoan 103 = .ok (.aload_n 0, 1) := by decide +kernel
theorem dX3_readLoan_104 : decode cX3_readLoan 104 = .ok (.getfield 25, 3) := by decide +kernel
theorem dX3_readLoan_107 : decode cX3_readLoan 107 = .ok (.getfield 117, 3) := by decide +kernel
theorem dX3_readLoan_110 : decode cX3_readLoan 110 = .ok (.iload_n 1, 1) := by decide +kernel
theorem dX3_readLoan_111 : decode cX3_readLoan 111 = .ok (.iconst 0, 1) := by decide +kernel
theorem dX3_readLoan_112 : decode cX3_readLoan 112 = .ok (.bipush 99, 2) := by decide +kernel
theorem dX3_readLoan_114 : decode cX3_readLoan 114 = .ok (.invokevirtual 107, 3) := by decide +kernel
theorem dX3_readLoan_117 : decode cX3_readLoan 117 = .ok (.ifCond .eq 57, 3) := by decide +kernel
theorem dX3_readLoan_120 : decode cX3_readLoan 120 = .ok (.aload_n 0, 1) := by decide +kernel
theorem dX3_readLoan_121 : decode cX3_readLoan 121 = .ok (.ldc 119, 2) := by decide +kernel
theorem dX3_readLoan_123 : decode cX3_readLoan 123 = .ok (.invokevirtual 102, 3) := by decide +kernel
theorem dX3_readLoan_126 : decode cX3_readLoan 126 = .ok (.ifCond .eq 48, 3) := by decide +kernel
theorem dX3_readLoan_129 : decode cX3_readLoan 129 = .ok (.aload_n 0, 1) := by decide +kernel
theorem dX3_readLoan_130 : decode cX3_readLoan 130 = .ok (.aload_n 0, 1) := by decide +kernel
theorem dX3_readLoan_131 : decode cX3_readLoan 131 = .ok (.getfield 25, 3) := by decide +kernel
theorem dX3_readLoan_134 : decode cX3_readLoan 134 = .ok (.getfield 121, 3) := by decide +kernel
theorem dX3_readLoan_137 : decode cX3_readLoan 137 = .ok (.iload_n 1, 1) := by decide +kernel
theorem dX3_readLoan_138 : decode cX3_readLoan 138 = .ok (.iconst 1, 1) := by decide +kernel
theorem dX3_readLoan_139 : decode cX3_readLoan 139 = .ok (.bipush 20, 2) := by decide +kernel
theorem dX3_readLoan_141 : decode cX3_readLoan 141 = .ok (.invokevirtual 107, 3) := by decide +kernel
theorem dX3_readLoan_144 : decode cX3_readLoan 144 = .ok (.ifCond .eq 30, 3) := by decide +kernel
theorem dX3_readLoan_147 : decode cX3_readLoan 147 = .ok (.aload_n 0, 1) := by decide +kernel
theorem dX3_readLoan_148 : decode cX3_readLoan 148 = .ok (.iload_n 1, 1) := by decide +kernel
theorem dX3_readLoan_149 : decode cX3_readLoan 149 = .ok (.invokevirtual 123, 3) := by decide +kernel
theorem dX3_readLoan_152 : decode cX3_readLoan 152 = .ok (.ifCond .eq 22, 3) := by decide +kernel
theorem dX3_readLoan_155 : decode cX3_readLoan 155 = .ok (.aload_n 0, 1) := by decide +kernel
theorem dX3_readLoan_156 : decode cX3_readLoan 156 = .ok (.iload_n 1, 1) := by decide +kernel
theorem dX3_readLoan_157 : decode cX3_readLoan 157 = .ok (.invokevirtual 126, 3) := by decide +kernel
theorem dX3_readLoan_160 : decode cX3_readLoan 160 = .ok (.ifCond .eq 14, 3) := by decide +kernel
theorem dX3_readLoan_163 : decode cX3_readLoan 163 = .ok (.aload_n 0, 1) := by decide +kernel
theorem dX3_readLoan_164 : decode cX3_readLoan 164 = .ok (.invokevirtual 129, 3) := by decide +kernel
theorem dX3_readLoan_167 : decode cX3_readLoan 167 = .ok (.ifCond .eq 7, 3) := by decide +kernel
theorem dX3_readLoan_170 : decode cX3_readLoan 170 = .ok (.iconst 1, 1) := by decide +kernel
theorem dX3_readLoan_171 : decode cX3_readLoan 171 = .ok (.goto 4, 3) := by decide +kernel
theorem dX3_readLoan_174 : decode cX3_readLoan 174 = .ok (.iconst 0, 1) := by decide +kernel
theorem dX3_readLoan_175 : decode cX3_readLoan 175 = .ok (.istore_n 2, 1) := by decide +kernel
theorem dX3_readLoan_176 : decode cX3_readLoan 176 = .ok (.iload_n 2, 1) := by decide +kernel
theorem dX3_readLoan_177 : decode cX3_readLoan 177 = .ok (.ifCond .eq 16, 3) := by decide +kernel
theorem dX3_readLoan_180 : decode cX3_readLoan 180 = .ok (.aload_n 0, 1) := by decide +kernel
theorem dX3_readLoan_181 : decode cX3_readLoan 181 = .ok (.getfield 25, 3) := by decide +kernel
theorem dX3_readLoan_184 : decode cX3_readLoan 184 = .ok (.dup, 1) := by decide +kernel
theorem dX3_readLoan_185 : decode cX3_readLoan 185 = .ok (.getfield 90, 3) := by decide +kernel
theorem dX3_readLoan_188 : decode cX3_readLoan 188 = .ok (.iconst 1, 1) := by decide +kernel
theorem dX3_readLoan_189 : decode cX3_readLoan 189 = .ok (.iadd, 1) := by decide +kernel
theorem dX3_readLoan_190 : decode cX3_readLoan 190 = .ok (.putfield 90, 3) := by decide +kernel
theorem dX3_readLoan_193 : decode cX3_readLoan 193 = .ok (.iload_n 2, 1) := by decide +kernel
theorem dX3_readLoan_194 : decode cX3_readLoan 194 = .ok (.ireturn, 1) := by decide +kernel
abbrev rX3_readLoan : Room := { frames := 9, cells := 0, slots := 0, locals := 215 }
theorem cal_X3_readLoan : CalOk yX3_readLoan cX3_readLoan 3 (some .boolean) 0 := ⟨wm_2_234, wm_1_4, by decide, by decide, by decide +kernel⟩
def f_X3_readLoan_175 (x0 : Nat) (y0 : Int32) (M : Mm) : Option (Int32 × Mm) :=
  (if y0 = 0 then
    ck (y0 = 0 ∨ y0 = 1) (some (y0, M))
  else
    ck (gK M x0 = 3) (bR (gR M x0 3) fun q2 => ck (gK M q2 = 6) (ck (gK M q2 = 6) (nm (sI M q2 0 ((gI M q2 0) + (1 : Int32))) fun M3 =>
    ck (y0 = 0 ∨ y0 = 1) (some (y0, M3))))))
set_option maxRecDepth 20000 in
set_option maxHeartbeats 4000000 in
theorem s_X3_readLoan_175 {z : Zt} {K : Int32 → Mm → Prop} (hz : Good z RX3 cX3_readLoan 3 rX3_readLoan (some .boolean)) (hq : Ret z zI K) : ∀ (x0 : Nat) (y0 : Int32) (M : Mm), Sim z 175 [(0, .ref x0)] [.int y0] M 0 0 (f_X3_readLoan_175 x0 y0 M) K := by
  intro x0 y0 M
  unfold f_X3_readLoan_175
  refine r_istore_n (lv' := [(2, .int y0), (0, .ref x0)]) hz dX3_readLoan_175 (by decide) rfl ?_
  refine r_iload_n hz dX3_readLoan_176 0 rfl ?_
  refine r_if_eq (tgt := 193) hz dX3_readLoan_177 rfl ?_ ?_
  · refine r_iload_n hz dX3_readLoan_193 0 rfl ?_
    refine r_ck (fun h1 => ?_)
    exact r_zret hz hq dX3_readLoan_194 h1 (Nat.le_of_ble_eq_true rfl) (Nat.le_of_ble_eq_true rfl)
  · refine r_aload_n hz dX3_readLoan_180 1 rfl ?_
    refine r_getR (j := 3) cl3 hz dX3_readLoan_181 (by decide) wm_1_201 rfl (fun q2 => ?_)
    refine r_dup hz dX3_readLoan_184 rfl ?_
    refine r_getI (j := 0) cl6 hz dX3_readLoan_185 (by decide) wm_1_39 rfl ?_
    refine r_iconst (v := 1) hz dX3_readLoan_188 rfl ?_
    refine r_iadd hz dX3_readLoan_189 ?_
    refine r_putI (j := 0) cl6 hz dX3_readLoan_190 (by decide) wm_1_39 (Or.inl rfl) rfl rfl rfl ?_
    refine r_nmM (fun M3 => ?_)
    refine r_iload_n hz dX3_readLoan_193 0 rfl ?_
    refine r_ck (fun h4 => ?_)
    exact r_zret hz hq dX3_readLoan_194 h4 (Nat.le_of_ble_eq_true rfl) (Nat.le_of_ble_eq_true rfl)
def f_X3_readLoan (p0 : Nat) (M : Mm) : Option (Int32 × Mm) :=
  ck (gK M p0 = 3) (bR (gR M p0 3) fun q1 => ck (gK M q1 = 6) (nm (gI M q1 0) fun v2 =>
  (if v2 < (4 : Int32) then
    ck (gK M p0 = 3) (bd (f_X3_advance p0 M) fun _ M3 =>
    ck (gK M3 p0 = 3) (bR (gR M3 p0 3) fun q4 => ck (gK M3 q4 = 6) (bR (gR M3 q4 5) fun q5 => ck (gK M3 p0 = 3) (bd (f_X3_newName p0 q5 v2 M3) fun v7 M6 =>
    (if v7 = 0 then
      f_X3_readLoan_175 p0 (0 : Int32) M6
    else
      ck (gK M6 p0 = 3) (bd (f_X3_word p0 1 M6) fun v9 M8 =>
      (if v9 = 0 then
        f_X3_readLoan_175 p0 (0 : Int32) M8
      else
        ck (gK M8 p0 = 3) (bR (gR M8 p0 3) fun q10 => ck (gK M8 q10 = 6) (bR (gR M8 q10 6) fun q11 => ck (gK M8 p0 = 3) (bd (f_X3_number p0 q11 v2 (1 : Int32) (60 : Int32) M8) fun v13 M12 =>
        (if v13 = 0 then
          f_X3_readLoan_175 p0 (0 : Int32) M12
        else
          ck (gK M12 p0 = 3) (bd (f_X3_word p0 2 M12) fun v15 M14 =>
          (if v15 = 0 then
            f_X3_readLoan_175 p0 (0 : Int32) M14
          else
            ck (gK M14 p0 = 3) (bR (gR M14 p0 3) fun q16 => ck (gK M14 q16 = 6) (bR (gR M14 q16 7) fun q17 => ck (gK M14 p0 = 3) (bd (f_X3_number p0 q17 v2 (1 : Int32) (999 : Int32) M14) fun v19 M18 =>
            (if v19 = 0 then
              f_X3_readLoan_175 p0 (0 : Int32) M18
            else
              ck (gK M18 p0 = 3) (bd (f_X3_word p0 3 M18) fun v21 M20 =>
              (if v21 = 0 then
                f_X3_readLoan_175 p0 (0 : Int32) M20
              else
                ck (gK M20 p0 = 3) (bR (gR M20 p0 3) fun q22 => ck (gK M20 q22 = 6) (bR (gR M20 q22 8) fun q23 => ck (gK M20 p0 = 3) (bd (f_X3_number p0 q23 v2 (0 : Int32) (99 : Int32) M20) fun v25 M24 =>
                (if v25 = 0 then
                  f_X3_readLoan_175 p0 (0 : Int32) M24
                else
                  ck (gK M24 p0 = 3) (bd (f_X3_word p0 4 M24) fun v27 M26 =>
                  (if v27 = 0 then
                    f_X3_readLoan_175 p0 (0 : Int32) M26
                  else
                    ck (gK M26 p0 = 3) (bR (gR M26 p0 3) fun q28 => ck (gK M26 q28 = 6) (bR (gR M26 q28 9) fun q29 => ck (gK M26 p0 = 3) (bd (f_X3_number p0 q29 v2 (1 : Int32) (20 : Int32) M26) fun v31 M30 =>
                    (if v31 = 0 then
                      f_X3_readLoan_175 p0 (0 : Int32) M30
                    else
                      ck (gK M30 p0 = 3) (bd (f_X3_readPlan p0 v2 M30) fun v33 M32 =>
                      (if v33 = 0 then
                        f_X3_readLoan_175 p0 (0 : Int32) M32
                      else
                        ck (gK M32 p0 = 3) (bd (f_X3_readLapse p0 v2 M32) fun v35 M34 =>
                        (if v35 = 0 then
                          f_X3_readLoan_175 p0 (0 : Int32) M34
                        else
                          ck (gK M34 p0 = 3) (bd (f_X3_sign p0 M34) fun v37 M36 =>
                          (if v37 = 0 then
                            f_X3_readLoan_175 p0 (0 : Int32) M36
                          else
                            f_X3_readLoan_175 p0 (1 : Int32) M36)))))))))))))))))))))))))))))))))))
  else
    ck (gK M p0 = 3) (bd (f_X3_refuse p0 (5 : Int32) M) fun v39 M38 =>
    ck (v39 = 0 ∨ v39 = 1) (some (v39, M38))))))
set_option maxRecDepth 20000 in
set_option maxHeartbeats 4000000 in
theorem t_X3_readLoan (p0 : Nat) (M : Mm) (x : Int32) (M' : Mm) (h : f_X3_readLoan p0 M = some (x, M')) : Ctr yX3_readLoan cX3_readLoan 3 (some .boolean) rX3_readLoan (fun _ => [.ref p0]) M (zI x) M' := by
  refine ctr_of (plainFor_of_name (by decide)) (fun _ => Nat.le_of_ble_eq_true rfl) (fun z hz hin hq => ?_)
  have key : Sim z 0 [(0, .ref p0)] [] M 0 0 (f_X3_readLoan p0 M) (fun a b => a = x ∧ b = M') := by
    have hq : Ret z zI (fun a b => a = x ∧ b = M') := fun a b e => by rw [e.1, e.2]; exact hq
    unfold f_X3_readLoan
    refine r_aload_n hz dX3_readLoan_0 0 rfl ?_
    refine r_getR (j := 3) cl3 hz dX3_readLoan_1 (by decide) wm_1_201 rfl (fun q1 => ?_)
    refine r_getI (j := 0) cl6 hz dX3_readLoan_4 (by decide) wm_1_39 rfl ?_
    refine r_nmi (fun v2 => ?_)
    refine r_istore_n (lv' := [(1, .int v2), (0, .ref p0)]) hz dX3_readLoan_7 (by decide) rfl ?_
    refine r_iload_n hz dX3_readLoan_8 0 rfl ?_
    refine r_iconst (v := 4) hz dX3_readLoan_9 rfl ?_
    refine r_icmp_lt (tgt := 19) hz dX3_readLoan_10 rfl ?_ ?_
    · refine r_aload_n hz dX3_readLoan_19 1 rfl ?_
      refine r_callVv (As := fun _ => []) cl3 hz (fun _ _ h => t_X3_advance _ _ _ _ h) cal_X3_advance dX3_readLoan_20 wm_2_167 wm_2_169 wm_p_0 rfl rfl (Nat.le_of_ble_eq_true rfl) ⟨(Nat.le_of_ble_eq_true rfl), (Nat.le_of_ble_eq_true rfl)⟩ ⟨(Nat.le_of_ble_eq_true rfl), (Nat.le_of_ble_eq_true rfl)⟩ (fun _ M3 => ?_)
      refine r_aload_n hz dX3_readLoan_23 1 rfl ?_
      refine r_aload_n hz dX3_readLoan_24 1 rfl ?_
      refine r_getR (j := 3) cl3 hz dX3_readLoan_25 (by decide) wm_1_201 rfl (fun q4 => ?_)
      refine r_getR (j := 5) cl6 hz dX3_readLoan_28 (by decide) wm_1_50 rfl (fun q5 => ?_)
      refine r_iload_n hz dX3_readLoan_31 0 rfl ?_
      refine r_callVi (As := fun _ => [.ref q5, .int v2]) cl3 hz (fun _ _ h => t_X3_newName _ _ _ _ _ _ h) cal_X3_newName dX3_readLoan_32 wm_2_239 wm_3_1 wm_p_5 rfl rfl (Nat.le_of_ble_eq_true rfl) ⟨(Nat.le_of_ble_eq_true rfl), (Nat.le_of_ble_eq_true rfl)⟩ ⟨(Nat.le_of_ble_eq_true rfl), (Nat.le_of_ble_eq_true rfl)⟩ (fun v7 M6 => ?_)
      refine r_if_eq (tgt := 174) hz dX3_readLoan_35 rfl ?_ ?_
      · refine r_iconst (v := 0) hz dX3_readLoan_174 rfl ?_
        refine r_sub [1] rfl ?_
        exact s_X3_readLoan_175 hz hq p0 (0 : Int32) M6
      · refine r_aload_n hz dX3_readLoan_38 1 rfl ?_
        refine r_ldcS hz dX3_readLoan_39 1 rfl ?_
        refine r_callVi (As := fun g => [.ref (g.2.2.2.1 1)]) cl3 hz (fun _ _ h => t_X3_word _ _ _ _ _ h) cal_X3_word dX3_readLoan_41 wm_3_28 wm_3_30 wm_p_7 rfl rfl (Nat.le_of_ble_eq_true rfl) ⟨(Nat.le_of_ble_eq_true rfl), (Nat.le_of_ble_eq_true rfl)⟩ ⟨(Nat.le_of_ble_eq_true rfl), (Nat.le_of_ble_eq_true rfl)⟩ (fun v9 M8 => ?_)
        refine r_if_eq (tgt := 174) hz dX3_readLoan_44 rfl ?_ ?_
        · refine r_iconst (v := 0) hz dX3_readLoan_174 rfl ?_
          refine r_sub [1] rfl ?_
          exact s_X3_readLoan_175 hz hq p0 (0 : Int32) M8
        · refine r_aload_n hz dX3_readLoan_47 1 rfl ?_
          refine r_aload_n hz dX3_readLoan_48 1 rfl ?_
          refine r_getR (j := 3) cl3 hz dX3_readLoan_49 (by decide) wm_1_201 rfl (fun q10 => ?_)
          refine r_getR (j := 6) cl6 hz dX3_readLoan_52 (by decide) wm_1_55 rfl (fun q11 => ?_)
          refine r_iload_n hz dX3_readLoan_55 0 rfl ?_
          refine r_iconst (v := 1) hz dX3_readLoan_56 rfl ?_
          refine r_bipush (v := 60) hz dX3_readLoan_57 rfl ?_
          refine r_callVi (As := fun _ => [.ref q11, .int v2, .int (1 : Int32), .int (60 : Int32)]) cl3 hz (fun _ _ h => t_X3_number _ _ _ _ _ _ _ _ h) cal_X3_number dX3_readLoan_59 wm_3_32 wm_3_34 wm_p_8 rfl rfl (Nat.le_of_ble_eq_true rfl) ⟨(Nat.le_of_ble_eq_true rfl), (Nat.le_of_ble_eq_true rfl)⟩ ⟨(Nat.le_of_ble_eq_true rfl), (Nat.le_of_ble_eq_true rfl)⟩ (fun v13 M12 => ?_)
          refine r_if_eq (tgt := 174) hz dX3_readLoan_62 rfl ?_ ?_
          · refine r_iconst (v := 0) hz dX3_readLoan_174 rfl ?_
            refine r_sub [1] rfl ?_
            exact s_X3_readLoan_175 hz hq p0 (0 : Int32) M12
          · refine r_aload_n hz dX3_readLoan_65 1 rfl ?_
            refine r_ldcS hz dX3_readLoan_66 2 rfl ?_
            refine r_callVi (As := fun g => [.ref (g.2.2.2.1 2)]) cl3 hz (fun _ _ h => t_X3_word _ _ _ _ _ h) cal_X3_word dX3_readLoan_68 wm_3_28 wm_3_30 wm_p_7 rfl rfl (Nat.le_of_ble_eq_true rfl) ⟨(Nat.le_of_ble_eq_true rfl), (Nat.le_of_ble_eq_true rfl)⟩ ⟨(Nat.le_of_ble_eq_true rfl), (Nat.le_of_ble_eq_true rfl)⟩ (fun v15 M14 => ?_)
            refine r_if_eq (tgt := 174) hz dX3_readLoan_71 rfl ?_ ?_
            · refine r_iconst (v := 0) hz dX3_readLoan_174 rfl ?_
              refine r_sub [1] rfl ?_
              exact s_X3_readLoan_175 hz hq p0 (0 : Int32) M14
            · refine r_aload_n hz dX3_readLoan_74 1 rfl ?_
              refine r_aload_n hz dX3_readLoan_75 1 rfl ?_
              refine r_getR (j := 3) cl3 hz dX3_readLoan_76 (by decide) wm_1_201 rfl (fun q16 => ?_)
              refine r_getR (j := 7) cl6 hz dX3_readLoan_79 (by decide) wm_1_61 rfl (fun q17 => ?_)
              refine r_iload_n hz dX3_readLoan_82 0 rfl ?_
              refine r_iconst (v := 1) hz dX3_readLoan_83 rfl ?_
              refine r_sipush (v := 999) hz dX3_readLoan_84 rfl ?_
              refine r_callVi (As := fun _ => [.ref q17, .int v2, .int (1 : Int32), .int (999 : Int32)]) cl3 hz (fun _ _ h => t_X3_number _ _ _ _ _ _ _ _ h) cal_X3_number dX3_readLoan_87 wm_3_32 wm_3_34 wm_p_8 rfl rfl (Nat.le_of_ble_eq_true rfl) ⟨(Nat.le_of_ble_eq_true rfl), (Nat.le_of_ble_eq_true rfl)⟩ ⟨(Nat.le_of_ble_eq_true rfl), (Nat.le_of_ble_eq_true rfl)⟩ (fun v19 M18 => ?_)
              refine r_if_eq (tgt := 174) hz dX3_readLoan_90 rfl ?_ ?_
              · refine r_iconst (v := 0) hz dX3_readLoan_174 rfl ?_
                refine r_sub [1] rfl ?_
                exact s_X3_readLoan_175 hz hq p0 (0 : Int32) M18
              · refine r_aload_n hz dX3_readLoan_93 1 rfl ?_
                refine r_ldcS hz dX3_readLoan_94 3 rfl ?_
                refine r_callVi (As := fun g => [.ref (g.2.2.2.1 3)]) cl3 hz (fun _ _ h => t_X3_word _ _ _ _ _ h) cal_X3_word dX3_readLoan_96 wm_3_28 wm_3_30 wm_p_7 rfl rfl (Nat.le_of_ble_eq_true rfl) ⟨(Nat.le_of_ble_eq_true rfl), (Nat.le_of_ble_eq_true rfl)⟩ ⟨(Nat.le_of_ble_eq_true rfl), (Nat.le_of_ble_eq_true rfl)⟩ (fun v21 M20 => ?_)
                refine r_if_eq (tgt := 174) hz dX3_readLoan_99 rfl ?_ ?_
                · refine r_iconst (v := 0) hz dX3_readLoan_174 rfl ?_
                  refine r_sub [1] rfl ?_
                  exact s_X3_readLoan_175 hz hq p0 (0 : Int32) M20
                · refine r_aload_n hz dX3_readLoan_102 1 rfl ?_
                  refine r_aload_n hz dX3_readLoan_103 1 rfl ?_
                  refine r_getR (j := 3) cl3 hz dX3_readLoan_104 (by decide) wm_1_201 rfl (fun q22 => ?_)
                  refine r_getR (j := 8) cl6 hz dX3_readLoan_107 (by decide) wm_1_65 rfl (fun q23 => ?_)
                  refine r_iload_n hz dX3_readLoan_110 0 rfl ?_
                  refine r_iconst (v := 0) hz dX3_readLoan_111 rfl ?_
                  refine r_bipush (v := 99) hz dX3_readLoan_112 rfl ?_
                  refine r_callVi (As := fun _ => [.ref q23, .int v2, .int (0 : Int32), .int (99 : Int32)]) cl3 hz (fun _ _ h => t_X3_number _ _ _ _ _ _ _ _ h) cal_X3_number dX3_readLoan_114 wm_3_32 wm_3_34 wm_p_8 rfl rfl (Nat.le_of_ble_eq_true rfl) ⟨(Nat.le_of_ble_eq_true rfl), (Nat.le_of_ble_eq_true rfl)⟩ ⟨(Nat.le_of_ble_eq_true rfl), (Nat.le_of_ble_eq_true rfl)⟩ (fun v25 M24 => ?_)
                  refine r_if_eq (tgt := 174) hz dX3_readLoan_117 rfl ?_ ?_
                  · refine r_iconst (v := 0) hz dX3_readLoan_174 rfl ?_
                    refine r_sub [1] rfl ?_
                    exact s_X3_readLoan_175 hz hq p0 (0 : Int32) M24
                  · refine r_aload_n hz dX3_readLoan_120 1 rfl ?_
                    refine r_ldcS hz dX3_readLoan_121 4 rfl ?_
                    refine r_callVi (As := fun g => [.ref (g.2.2.2.1 4)]) cl3 hz (fun _ _ h => t_X3_word _ _ _ _ _ h) cal_X3_word dX3_readLoan_123 wm_3_28 wm_3_30 wm_p_7 rfl rfl (Nat.le_of_ble_eq_true rfl) ⟨(Nat.le_of_ble_eq_true rfl), (Nat.le_of_ble_eq_true rfl)⟩ ⟨(Nat.le_of_ble_eq_true rfl), (Nat.le_of_ble_eq_true rfl)⟩ (fun v27 M26 => ?_)
                    refine r_if_eq (tgt := 174) hz dX3_readLoan_126 rfl ?_ ?_
                    · refine r_iconst (v := 0) hz dX3_readLoan_174 rfl ?_
                      refine r_sub [1] rfl ?_
                      exact s_X3_readLoan_175 hz hq p0 (0 : Int32) M26
                    · refine r_aload_n hz dX3_readLoan_129 1 rfl ?_
                      refine r_aload_n hz dX3_readLoan_130 1 rfl ?_
                      refine r_getR (j := 3) cl3 hz dX3_readLoan_131 (by decide) wm_1_201 rfl (fun q28 => ?_)
                      refine r_getR (j := 9) cl6 hz dX3_readLoan_134 (by decide) wm_1_70 rfl (fun q29 => ?_)
                      refine r_iload_n hz dX3_readLoan_137 0 rfl ?_
                      refine r_iconst (v := 1) hz dX3_readLoan_138 rfl ?_
                      refine r_bipush (v := 20) hz dX3_readLoan_139 rfl ?_
                      refine r_callVi (As := fun _ => [.ref q29, .int v2, .int (1 : Int32), .int (20 : Int32)]) cl3 hz (fun _ _ h => t_X3_number _ _ _ _ _ _ _ _ h) cal_X3_number dX3_readLoan_141 wm_3_32 wm_3_34 wm_p_8 rfl rfl (Nat.le_of_ble_eq_true rfl) ⟨(Nat.le_of_ble_eq_true rfl), (Nat.le_of_ble_eq_true rfl)⟩ ⟨(Nat.le_of_ble_eq_true rfl), (Nat.le_of_ble_eq_true rfl)⟩ (fun v31 M30 => ?_)
                      refine r_if_eq (tgt := 174) hz dX3_readLoan_144 rfl ?_ ?_
                      · refine r_iconst (v := 0) hz dX3_readLoan_174 rfl ?_
                        refine r_sub [1] rfl ?_
                        exact s_X3_readLoan_175 hz hq p0 (0 : Int32) M30
                      · refine r_aload_n hz dX3_readLoan_147 1 rfl ?_
                        refine r_iload_n hz dX3_readLoan_148 0 rfl ?_
                        refine r_callVi (As := fun _ => [.int v2]) cl3 hz (fun _ _ h => t_X3_readPlan _ _ _ _ _ h) cal_X3_readPlan dX3_readLoan_149 wm_3_40 wm_3_42 wm_p_10 rfl rfl (Nat.le_of_ble_eq_true rfl) ⟨(Nat.le_of_ble_eq_true rfl), (Nat.le_of_ble_eq_true rfl)⟩ ⟨(Nat.le_of_ble_eq_true rfl), (Nat.le_of_ble_eq_true rfl)⟩ (fun v33 M32 => ?_)
                        refine r_if_eq (tgt := 174) hz dX3_readLoan_152 rfl ?_ ?_
                        · refine r_iconst (v := 0) hz dX3_readLoan_174 rfl ?_
                          refine r_sub [1] rfl ?_
                          exact s_X3_readLoan_175 hz hq p0 (0 : Int32) M32
                        · refine r_aload_n hz dX3_readLoan_155 1 rfl ?_
                          refine r_iload_n hz dX3_readLoan_156 0 rfl ?_
                          refine r_callVi (As := fun _ => [.int v2]) cl3 hz (fun _ _ h => t_X3_readLapse _ _ _ _ _ h) cal_X3_readLapse dX3_readLoan_157 wm_3_45 wm_3_47 wm_p_11 rfl rfl (Nat.le_of_ble_eq_true rfl) ⟨(Nat.le_of_ble_eq_true rfl), (Nat.le_of_ble_eq_true rfl)⟩ ⟨(Nat.le_of_ble_eq_true rfl), (Nat.le_of_ble_eq_true rfl)⟩ (fun v35 M34 => ?_)
                          refine r_if_eq (tgt := 174) hz dX3_readLoan_160 rfl ?_ ?_
                          · refine r_iconst (v := 0) hz dX3_readLoan_174 rfl ?_
                            refine r_sub [1] rfl ?_
                            exact s_X3_readLoan_175 hz hq p0 (0 : Int32) M34
                          · refine r_aload_n hz dX3_readLoan_163 1 rfl ?_
                            refine r_callVi (As := fun _ => []) cl3 hz (fun _ _ h => t_X3_sign _ _ _ _ h) cal_X3_sign dX3_readLoan_164 wm_3_49 wm_3_51 wm_p_12 rfl rfl (Nat.le_of_ble_eq_true rfl) ⟨(Nat.le_of_ble_eq_true rfl), (Nat.le_of_ble_eq_true rfl)⟩ ⟨(Nat.le_of_ble_eq_true rfl), (Nat.le_of_ble_eq_true rfl)⟩ (fun v37 M36 => ?_)
                            refine r_if_eq (tgt := 174) hz dX3_readLoan_167 rfl ?_ ?_
                            · refine r_iconst (v := 0) hz dX3_readLoan_174 rfl ?_
                              refine r_sub [1] rfl ?_
                              exact s_X3_readLoan_175 hz hq p0 (0 : Int32) M36
                            · refine r_iconst (v := 1) hz dX3_readLoan_170 rfl ?_
                              refine r_goto (tgt := 175) hz dX3_readLoan_171 rfl ?_
                              refine r_sub [1] rfl ?_
                              exact s_X3_readLoan_175 hz hq p0 (1 : Int32) M36
    · refine r_aload_n hz dX3_readLoan_13 1 rfl ?_
      refine r_iconst (v := 5) hz dX3_readLoan_14 rfl ?_
      refine r_callVi (As := fun _ => [.int (5 : Int32)]) cl3 hz (fun _ _ h => t_X3_refuse _ _ _ _ _ h) cal_X3_refuse dX3_readLoan_15 wm_2_235 wm_2_237 wm_p_4 rfl rfl (Nat.le_of_ble_eq_true rfl) ⟨(Nat.le_of_ble_eq_true rfl), (Nat.le_of_ble_eq_true rfl)⟩ ⟨(Nat.le_of_ble_eq_true rfl), (Nat.le_of_ble_eq_true rfl)⟩ (fun v39 M38 => ?_)
      refine r_ck (fun h40 => ?_)
      exact r_zret hz hq dX3_readLoan_18 h40 (Nat.le_of_ble_eq_true rfl) (Nat.le_of_ble_eq_true rfl)
  exact key x M' h ⟨rfl, rfl⟩
theorem dX3_readHolder_0 : decode cX3_readHolder 0 = .ok (.aload_n 0, 1) := by decide +kernel
theorem dX3_readHolder_1 : decode cX3_readHolder 1 = .ok (.getfield 25, 3) := by decide +kernel
theorem dX3_readHolder_4 : decode cX3_readHolder 4 = .ok (.getfield 148, 3) := by decide +kernel
theorem dX3_readHolder_7 : decode cX3_readHolder 7 = .ok (.istore_n 1, 1) := by decide +kernel
theorem dX3_readHolder_8 : decode cX3_readHolder 8 = .ok (.iload_n 1, 1) := by decide +kernel
theorem dX3_readHolder_9 : decode cX3_readHolder 9 = .ok (.bipush 6, 2) := by decide +kernel
theorem dX3_readHolder_11 : decode cX3_readHolder 11 = .ok (.if_icmp .lt 9, 3) := by decide +kernel
theorem dX3_readHolder_14 : decode cX3_readHolder 14 = .ok (.aload_n 0, 1) := by decide +kernel
theorem dX3_readHolder_15 : decode cX3_readHolder 15 = .ok (.iconst 5, 1) := by decide +kernel
theorem dX3_readHolder_16 : decode cX3_readHolder 16 = .ok (.invokevirtual 86, 3) := by decide +kernel
theorem dX3_readHolder_19 : decode cX3_readHolder 19 = .ok (.ireturn, 1) := by decide +kernel
theorem dX3_readHolder_20 : decode cX3_readHolder 20 = .ok (.aload_n 0, 1) := by decide +kernel
theorem dX3_readHolder_21 : decode cX3_readHolder 21 = .ok (.invokevirtual 53, 3) := by decide +kernel
theorem dX3_readHolder_24 : decode cX3_readHolder 24 = .ok (.aload_n 0, 1) := by decide +kernel
theorem dX3_readHolder_25 : decode cX3_readHolder 25 = .ok (.aload_n 0, 1) := by decide +kernel
theorem dX3_readHolder_26 : decode cX3_readHolder 26 = .ok (.getfield 25, 3) := by decide +kernel
theorem dX3_readHolder_29 : decode cX3_readHolder 29 = .ok (.getfield 151, 3) := by decide +kernel
theorem dX3_readHolder_32 : decode cX3_readHolder 32 = .ok (.iload_n 1, 1) := by decide +kernel
theorem dX3_readHolder_33 : decode cX3_readHolder 33 = .ok (.invokevirtual 96, 3) := by decide +kernel
theorem dX3_readHolder_36 : decode cX3_readHolder 36 = .ok (.ifCond .eq 41, 3) := by decide +kernel
theorem dX3_readHolder_39 : decode cX3_readHolder 39 = .ok (.aload_n 0, 1) := by decide +kernel
theorem dX3_readHolder_40 : decode cX3_readHolder 40 = .ok (.ldc 154, 2) := by decide +kernel
theorem dX3_readHolder_42 : decode cX3_readHolder 42 = .ok (.invokevirtual 102, 3) := by decide +kernel
theorem dX3_readHolder_45 : decode cX3_readHolder 45 = .ok (.ifCond .eq 32, 3) := by decide +kernel
theorem dX3_readHolder_48 : decode cX3_readHolder 48 = .ok (.aload_n 0, 1) := by decide +kernel
theorem dX3_readHolder_49 : decode cX3_readHolder 49 = .ok (.aload_n 0, 1) := by decide +kernel
theorem dX3_readHolder_50 : decode cX3_readHolder 50 = .ok (.getfield 25, 3) := by decide +kernel
theorem dX3_readHolder_53 : decode cX3_readHolder 53 = .ok (.getfield 156, 3) := by decide +kernel
theorem dX3_readHolder_56 : decode cX3_readHolder 56 = .ok (.iload_n 1, 1) := by decide +kernel
theorem dX3_readHolder_57 : decode cX3_readHolder 57 = .ok (.iconst 0, 1) := by decide +kernel
theorem dX3_readHolder_58 : decode cX3_readHolder 58 = .ok (.ldc 140, 2) := by decide +kernel
theorem dX3_readHolder_60 : decode cX3_readHolder 60 = .ok (.invokevirtual 107, 3) := by decide +kernel
theorem dX3_readHolder_63 : decode cX3_readHolder 63 = .ok (.ifCond .eq 14, 3) := by decide +kernel
theorem dX3_readHolder_66 : decode cX3_readHolder 66 = .ok (.aload_n 0, 1) := by decide +kernel
theorem dX3_readHolder_67 : decode cX3_readHolder 67 = .ok (.invokevirtual 129, 3) := by decide +kernel
theorem dX3_readHolder_70 : decode cX3_readHolder 70 = .ok (.ifCond .eq 7, 3) := by decide +kernel
theorem dX3_readHolder_73 : decode cX3_readHolder 73 = .ok (.iconst 1, 1) := by decide +kernel
theorem dX3_readHolder_74 : decode cX3_readHolder 74 = .ok (.goto 4, 3) := by decide +kernel
theorem dX3_readHolder_77 : decode cX3_readHolder 77 = .ok (.iconst 0, 1) := by decide +kernel
theorem dX3_readHolder_78 : decode cX3_readHolder 78 = .ok (.istore_n 2, 1) := by decide +kernel
theorem dX3_readHolder_79 : decode cX3_readHolder 79 = .ok (.iload_n 2, 1) := by decide +kernel
theorem dX3_readHolder_80 : decode cX3_readHolder 80 = .ok (.ifCond .eq 16, 3) := by decide +kernel
theorem dX3_readHolder_83 : decode cX3_readHolder 83 = .ok (.aload_n 0, 1) := by decide +kernel
theorem dX3_readHolder_84 : decode cX3_readHolder 84 = .ok (.getfield 25, 3) := by decide +kernel
theorem dX3_readHolder_87 : decode cX3_readHolder 87 = .ok (.dup, 1) := by decide +kernel
theorem dX3_readHolder_88 : decode cX3_readHolder 88 = .ok (.getfield 148, 3) := by decide +kernel
theorem dX3_readHolder_91 : decode cX3_readHolder 91 = .ok (.iconst 1, 1) := by decide +kernel
theorem dX3_readHolder_92 : decode cX3_readHolder 92 = .ok (.iadd, 1) := by decide +kernel
theorem dX3_readHolder_93 : decode cX3_readHolder 93 = .ok (.putfield 148, 3) := by decide +kernel
theorem dX3_readHolder_96 : decode cX3_readHolder 96 = .ok (.iload_n 2, 1) := by decide +kernel
theorem dX3_readHolder_97 : decode cX3_readHolder 97 = .ok (.ireturn, 1) := by decide +kernel
abbrev rX3_readHolder : Room := { frames := 9, cells := 0, slots := 0, locals := 215 }
theorem cal_X3_readHolder : CalOk yX3_readHolder cX3_readHolder 3 (some .boolean) 0 := ⟨wm_3_56, wm_1_4, by decide, by decide, by decide +kernel⟩
def f_X3_readHolder_78 (x0 : Nat) (y0 : Int32) (M : Mm) : Option (Int32 × Mm) :=
  (if y0 = 0 then
    ck (y0 = 0 ∨ y0 = 1) (some (y0, M))
  else
    ck (gK M x0 = 3) (bR (gR M x0 3) fun q2 => ck (gK M q2 = 6) (ck (gK M q2 = 6) (nm (sI M q2 1 ((gI M q2 1) + (1 : Int32))) fun M3 =>
    ck (y0 = 0 ∨ y0 = 1) (some (y0, M3))))))
set_option maxRecDepth 20000 in
set_option maxHeartbeats 4000000 in
theorem s_X3_readHolder_78 {z : Zt} {K : Int32 → Mm → Prop} (hz : Good z RX3 cX3_readHolder 3 rX3_readHolder (some .boolean)) (hq : Ret z zI K) : ∀ (x0 : Nat) (y0 : Int32) (M : Mm), Sim z 78 [(0, .ref x0)] [.int y0] M 0 0 (f_X3_readHolder_78 x0 y0 M) K := by
  intro x0 y0 M
  unfold f_X3_readHolder_78
  refine r_istore_n (lv' := [(2, .int y0), (0, .ref x0)]) hz dX3_readHolder_78 (by decide) rfl ?_
  refine r_iload_n hz dX3_readHolder_79 0 rfl ?_
  refine r_if_eq (tgt := 96) hz dX3_readHolder_80 rfl ?_ ?_
  · refine r_iload_n hz dX3_readHolder_96 0 rfl ?_
    refine r_ck (fun h1 => ?_)
    exact r_zret hz hq dX3_readHolder_97 h1 (Nat.le_of_ble_eq_true rfl) (Nat.le_of_ble_eq_true rfl)
  · refine r_aload_n hz dX3_readHolder_83 1 rfl ?_
    refine r_getR (j := 3) cl3 hz dX3_readHolder_84 (by decide) wm_1_201 rfl (fun q2 => ?_)
    refine r_dup hz dX3_readHolder_87 rfl ?_
    refine r_getI (j := 1) cl6 hz dX3_readHolder_88 (by decide) wm_1_42 rfl ?_
    refine r_iconst (v := 1) hz dX3_readHolder_91 rfl ?_
    refine r_iadd hz dX3_readHolder_92 ?_
    refine r_putI (j := 1) cl6 hz dX3_readHolder_93 (by decide) wm_1_42 (Or.inl rfl) rfl rfl rfl ?_
    refine r_nmM (fun M3 => ?_)
    refine r_iload_n hz dX3_readHolder_96 0 rfl ?_
    refine r_ck (fun h4 => ?_)
    exact r_zret hz hq dX3_readHolder_97 h4 (Nat.le_of_ble_eq_true rfl) (Nat.le_of_ble_eq_true rfl)
def f_X3_readHolder (p0 : Nat) (M : Mm) : Option (Int32 × Mm) :=
  ck (gK M p0 = 3) (bR (gR M p0 3) fun q1 => ck (gK M q1 = 6) (nm (gI M q1 1) fun v2 =>
  (if v2 < (6 : Int32) then
    ck (gK M p0 = 3) (bd (f_X3_advance p0 M) fun _ M3 =>
    ck (gK M3 p0 = 3) (bR (gR M3 p0 3) fun q4 => ck (gK M3 q4 = 6) (bR (gR M3 q4 13) fun q5 => ck (gK M3 p0 = 3) (bd (f_X3_newName p0 q5 v2 M3) fun v7 M6 =>
    (if v7 = 0 then
      f_X3_readHolder_78 p0 (0 : Int32) M6
    else
      ck (gK M6 p0 = 3) (bd (f_X3_word p0 10 M6) fun v9 M8 =>
      (if v9 = 0 then
        f_X3_readHolder_78 p0 (0 : Int32) M8
      else
        ck (gK M8 p0 = 3) (bR (gR M8 p0 3) fun q10 => ck (gK M8 q10 = 6) (bR (gR M8 q10 14) fun q11 => ck (gK M8 p0 = 3) (bd (f_X3_number p0 q11 v2 (0 : Int32) (99999 : Int32) M8) fun v13 M12 =>
        (if v13 = 0 then
          f_X3_readHolder_78 p0 (0 : Int32) M12
        else
          ck (gK M12 p0 = 3) (bd (f_X3_sign p0 M12) fun v15 M14 =>
          (if v15 = 0 then
            f_X3_readHolder_78 p0 (0 : Int32) M14
          else
            f_X3_readHolder_78 p0 (1 : Int32) M14)))))))))))))
  else
    ck (gK M p0 = 3) (bd (f_X3_refuse p0 (5 : Int32) M) fun v17 M16 =>
    ck (v17 = 0 ∨ v17 = 1) (some (v17, M16))))))
set_option maxRecDepth 20000 in
set_option maxHeartbeats 4000000 in
theorem t_X3_readHolder (p0 : Nat) (M : Mm) (x : Int32) (M' : Mm) (h : f_X3_readHolder p0 M = some (x, M')) : Ctr yX3_readHolder cX3_readHolder 3 (some .boolean) rX3_readHolder (fun _ => [.ref p0]) M (zI x) M' := by
  refine ctr_of (plainFor_of_name (by decide)) (fun _ => Nat.le_of_ble_eq_true rfl) (fun z hz hin hq => ?_)
  have key : Sim z 0 [(0, .ref p0)] [] M 0 0 (f_X3_readHolder p0 M) (fun a b => a = x ∧ b = M') := by
    have hq : Ret z zI (fun a b => a = x ∧ b = M') := fun a b e => by rw [e.1, e.2]; exact hq
    unfold f_X3_readHolder
    refine r_aload_n hz dX3_readHolder_0 0 rfl ?_
    refine r_getR (j := 3) cl3 hz dX3_readHolder_1 (by decide) wm_1_201 rfl (fun q1 => ?_)
    refine r_getI (j := 1) cl6 hz dX3_readHolder_4 (by decide) wm_1_42 rfl ?_
    refine r_nmi (fun v2 => ?_)
    refine r_istore_n (lv' := [(1, .int v2), (0, .ref p0)]) hz dX3_readHolder_7 (by decide) rfl ?_
    refine r_iload_n hz dX3_readHolder_8 0 rfl ?_
    refine r_bipush (v := 6) hz dX3_readHolder_9 rfl ?_
    refine r_icmp_lt (tgt := 20) hz dX3_readHolder_11 rfl ?_ ?_
    · refine r_aload_n hz dX3_readHolder_20 1 rfl ?_
      refine r_callVv (As := fun _ => []) cl3 hz (fun _ _ h => t_X3_advance _ _ _ _ h) cal_X3_advance dX3_readHolder_21 wm_2_167 wm_2_169 wm_p_0 rfl rfl (Nat.le_of_ble_eq_true rfl) ⟨(Nat.le_of_ble_eq_true rfl), (Nat.le_of_ble_eq_true rfl)⟩ ⟨(Nat.le_of_ble_eq_true rfl), (Nat.le_of_ble_eq_true rfl)⟩ (fun _ M3 => ?_)
      refine r_aload_n hz dX3_readHolder_24 1 rfl ?_
      refine r_aload_n hz dX3_readHolder_25 1 rfl ?_
      refine r_getR (j := 3) cl3 hz dX3_readHolder_26 (by decide) wm_1_201 rfl (fun q4 => ?_)
      refine r_getR (j := 13) cl6 hz dX3_readHolder_29 (by decide) wm_1_84 rfl (fun q5 => ?_)
      refine r_iload_n hz dX3_readHolder_32 0 rfl ?_
      refine r_callVi (As := fun _ => [.ref q5, .int v2]) cl3 hz (fun _ _ h => t_X3_newName _ _ _ _ _ _ h) cal_X3_newName dX3_readHolder_33 wm_2_239 wm_3_1 wm_p_5 rfl rfl (Nat.le_of_ble_eq_true rfl) ⟨(Nat.le_of_ble_eq_true rfl), (Nat.le_of_ble_eq_true rfl)⟩ ⟨(Nat.le_of_ble_eq_true rfl), (Nat.le_of_ble_eq_true rfl)⟩ (fun v7 M6 => ?_)
      refine r_if_eq (tgt := 77) hz dX3_readHolder_36 rfl ?_ ?_
      · refine r_iconst (v := 0) hz dX3_readHolder_77 rfl ?_
        refine r_sub [1] rfl ?_
        exact s_X3_readHolder_78 hz hq p0 (0 : Int32) M6
      · refine r_aload_n hz dX3_readHolder_39 1 rfl ?_
        refine r_ldcS hz dX3_readHolder_40 10 rfl ?_
        refine r_callVi (As := fun g => [.ref (g.2.2.2.1 10)]) cl3 hz (fun _ _ h => t_X3_word _ _ _ _ _ h) cal_X3_word dX3_readHolder_42 wm_3_28 wm_3_30 wm_p_7 rfl rfl (Nat.le_of_ble_eq_true rfl) ⟨(Nat.le_of_ble_eq_true rfl), (Nat.le_of_ble_eq_true rfl)⟩ ⟨(Nat.le_of_ble_eq_true rfl), (Nat.le_of_ble_eq_true rfl)⟩ (fun v9 M8 => ?_)
        refine r_if_eq (tgt := 77) hz dX3_readHolder_45 rfl ?_ ?_
        · refine r_iconst (v := 0) hz dX3_readHolder_77 rfl ?_
          refine r_sub [1] rfl ?_
          exact s_X3_readHolder_78 hz hq p0 (0 : Int32) M8
        · refine r_aload_n hz dX3_readHolder_48 1 rfl ?_
          refine r_aload_n hz dX3_readHolder_49 1 rfl ?_
          refine r_getR (j := 3) cl3 hz dX3_readHolder_50 (by decide) wm_1_201 rfl (fun q10 => ?_)
          refine r_getR (j := 14) cl6 hz dX3_readHolder_53 (by decide) wm_1_87 rfl (fun q11 => ?_)
          refine r_iload_n hz dX3_readHolder_56 0 rfl ?_
          refine r_iconst (v := 0) hz dX3_readHolder_57 rfl ?_
          refine r_ldc (v := 99999) hz dX3_readHolder_58 wm_3_44 ?_
          refine r_callVi (As := fun _ => [.ref q11, .int v2, .int (0 : Int32), .int (99999 : Int32)]) cl3 hz (fun _ _ h => t_X3_number _ _ _ _ _ _ _ _ h) cal_X3_number dX3_readHolder_60 wm_3_32 wm_3_34 wm_p_8 rfl rfl (Nat.le_of_ble_eq_true rfl) ⟨(Nat.le_of_ble_eq_true rfl), (Nat.le_of_ble_eq_true rfl)⟩ ⟨(Nat.le_of_ble_eq_true rfl), (Nat.le_of_ble_eq_true rfl)⟩ (fun v13 M12 => ?_)
          refine r_if_eq (tgt := 77) hz dX3_readHolder_63 rfl ?_ ?_
          · refine r_iconst (v := 0) hz dX3_readHolder_77 rfl ?_
            refine r_sub [1] rfl ?_
            exact s_X3_readHolder_78 hz hq p0 (0 : Int32) M12
          · refine r_aload_n hz dX3_readHolder_66 1 rfl ?_
            refine r_callVi (As := fun _ => []) cl3 hz (fun _ _ h => t_X3_sign _ _ _ _ h) cal_X3_sign dX3_readHolder_67 wm_3_49 wm_3_51 wm_p_12 rfl rfl (Nat.le_of_ble_eq_true rfl) ⟨(Nat.le_of_ble_eq_true rfl), (Nat.le_of_ble_eq_true rfl)⟩ ⟨(Nat.le_of_ble_eq_true rfl), (Nat.le_of_ble_eq_true rfl)⟩ (fun v15 M14 => ?_)
            refine r_if_eq (tgt := 77) hz dX3_readHolder_70 rfl ?_ ?_
            · refine r_iconst (v := 0) hz dX3_readHolder_77 rfl ?_
              refine r_sub [1] rfl ?_
              exact s_X3_readHolder_78 hz hq p0 (0 : Int32) M14
            · refine r_iconst (v := 1) hz dX3_readHolder_73 rfl ?_
              refine r_goto (tgt := 78) hz dX3_readHolder_74 rfl ?_
              refine r_sub [1] rfl ?_
              exact s_X3_readHolder_78 hz hq p0 (1 : Int32) M14
    · refine r_aload_n hz dX3_readHolder_14 1 rfl ?_
      refine r_iconst (v := 5) hz dX3_readHolder_15 rfl ?_
      refine r_callVi (As := fun _ => [.int (5 : Int32)]) cl3 hz (fun _ _ h => t_X3_refuse _ _ _ _ _ h) cal_X3_refuse dX3_readHolder_16 wm_2_235 wm_2_237 wm_p_4 rfl rfl (Nat.le_of_ble_eq_true rfl) ⟨(Nat.le_of_ble_eq_true rfl), (Nat.le_of_ble_eq_true rfl)⟩ ⟨(Nat.le_of_ble_eq_true rfl), (Nat.le_of_ble_eq_true rfl)⟩ (fun v17 M16 => ?_)
      refine r_ck (fun h18 => ?_)
      exact r_zret hz hq dX3_readHolder_19 h18 (Nat.le_of_ble_eq_true rfl) (Nat.le_of_ble_eq_true rfl)
  exact key x M' h ⟨rfl, rfl⟩
theorem dX3_known_0 : decode cX3_known 0 = .ok (.iload_n 1, 1) := by decide +kernel
theorem dX3_known_1 : decode cX3_known 1 = .ok (.iconst (-1), 1) := by decide +kernel
theorem dX3_known_2 : decode cX3_known 2 = .ok (.if_icmp .ne 23, 3) := by decide +kernel
theorem dX3_known_5 : decode cX3_known 5 = .ok (.aload_n 0, 1) := by decide +kernel
theorem dX3_known_6 : decode cX3_known 6 = .ok (.aload_n 0, 1) := by decide +kernel
theorem dX3_known_7 : decode cX3_known 7 = .ok (.invokevirtual 200, 3) := by decide +kernel
theorem dX3_known_10 : decode cX3_known 10 = .ok (.ifCond .eq 7, 3) := by decide +kernel
theorem dX3_known_13 : decode cX3_known 13 = .ok (.iconst 3, 1) := by decide +kernel
theorem dX3_known_14 : decode cX3_known 14 = .ok (.goto 4, 3) := by decide +kernel
theorem dX3_known_17 : decode cX3_known 17 = .ok (.iconst 1, 1) := by decide +kernel
theorem dX3_known_18 : decode cX3_known 18 = .ok (.invokevirtual 86, 3) := by decide +kernel
theorem dX3_known_21 : decode cX3_known 21 = .ok (.pop, 1) := by decide +kernel
theorem dX3_known_22 : decode cX3_known 22 = .ok (.goto 7, 3) := by decide +kernel
theorem dX3_known_25 : decode cX3_known 25 = .ok (.aload_n 0, 1) := by decide +kernel
theorem dX3_known_26 : decode cX3_known 26 = .ok (.invokevirtual 53, 3) := by decide +kernel
theorem dX3_known_29 : decode cX3_known 29 = .ok (.iload_n 1, 1) := by decide +kernel
theorem dX3_known_30 : decode cX3_known 30 = .ok (.ireturn, 1) := by decide +kernel
abbrev rX3_known : Room := { frames := 8, cells := 0, slots := 0, locals := 193 }
theorem cal_X3_known : CalOk yX3_known cX3_known 2 (some .int) 1 := ⟨wm_3_68, wm_1_4, by decide, by decide, by decide +kernel⟩
def f_X3_known (p0 : Nat) (p1 : Int32) (M : Mm) : Option (Int32 × Mm) :=
  (if ¬ p1 = (-1 : Int32) then
    ck (gK M p0 = 3) (bd (f_X3_advance p0 M) fun _ M1 =>
    some (p1, M1))
  else
    ck (gK M p0 = 3) (bd (f_X3_isName p0 M) fun v3 M2 =>
    (if v3 = 0 then
      ck (gK M2 p0 = 3) (bd (f_X3_refuse p0 (1 : Int32) M2) fun v5 M4 =>
      some (p1, M4))
    else
      ck (gK M2 p0 = 3) (bd (f_X3_refuse p0 (3 : Int32) M2) fun v7 M6 =>
      some (p1, M6)))))
set_option maxRecDepth 20000 in
set_option maxHeartbeats 4000000 in
theorem t_X3_known (p0 : Nat) (p1 : Int32) (M : Mm) (x : Int32) (M' : Mm) (h : f_X3_known p0 p1 M = some (x, M')) : Ctr yX3_known cX3_known 2 (some .int) rX3_known (fun _ => [.ref p0, .int p1]) M (zI x) M' := by
  refine ctr_of (plainFor_of_name (by decide)) (fun _ => Nat.le_of_ble_eq_true rfl) (fun z hz hin hq => ?_)
  have key : Sim z 0 [(0, .ref p0), (1, .int p1)] [] M 0 0 (f_X3_known p0 p1 M) (fun a b => a = x ∧ b = M') := by
    have hq : Ret z zI (fun a b => a = x ∧ b = M') := fun a b e => by rw [e.1, e.2]; exact hq
    unfold f_X3_known
    refine r_iload_n hz dX3_known_0 1 rfl ?_
    refine r_iconst (v := -1) hz dX3_known_1 rfl ?_
    refine r_icmp_ne (tgt := 25) hz dX3_known_2 rfl ?_ ?_
    · refine r_aload_n hz dX3_known_25 0 rfl ?_
      refine r_callVv (As := fun _ => []) cl3 hz (fun _ _ h => t_X3_advance _ _ _ _ h) cal_X3_advance dX3_known_26 wm_2_167 wm_2_169 wm_p_0 rfl rfl (Nat.le_of_ble_eq_true rfl) ⟨(Nat.le_of_ble_eq_true rfl), (Nat.le_of_ble_eq_true rfl)⟩ ⟨(Nat.le_of_ble_eq_true rfl), (Nat.le_of_ble_eq_true rfl)⟩ (fun _ M1 => ?_)
      refine r_iload_n hz dX3_known_29 1 rfl ?_
      exact r_iret hz hq dX3_known_30 (Nat.le_of_ble_eq_true rfl) (Nat.le_of_ble_eq_true rfl)
    · refine r_aload_n hz dX3_known_5 0 rfl ?_
      refine r_aload_n hz dX3_known_6 0 rfl ?_
      refine r_callVi (As := fun _ => []) cl3 hz (fun _ _ h => t_X3_isName _ _ _ _ h) cal_X3_isName dX3_known_7 wm_3_3 wm_3_5 wm_p_6 rfl rfl (Nat.le_of_ble_eq_true rfl) ⟨(Nat.le_of_ble_eq_true rfl), (Nat.le_of_ble_eq_true rfl)⟩ ⟨(Nat.le_of_ble_eq_true rfl), (Nat.le_of_ble_eq_true rfl)⟩ (fun v3 M2 => ?_)
      refine r_if_eq (tgt := 17) hz dX3_known_10 rfl ?_ ?_
      · refine r_iconst (v := 1) hz dX3_known_17 rfl ?_
        refine r_callVi (As := fun _ => [.int (1 : Int32)]) cl3 hz (fun _ _ h => t_X3_refuse _ _ _ _ _ h) cal_X3_refuse dX3_known_18 wm_2_235 wm_2_237 wm_p_4 rfl rfl (Nat.le_of_ble_eq_true rfl) ⟨(Nat.le_of_ble_eq_true rfl), (Nat.le_of_ble_eq_true rfl)⟩ ⟨(Nat.le_of_ble_eq_true rfl), (Nat.le_of_ble_eq_true rfl)⟩ (fun v5 M4 => ?_)
        refine r_pop hz dX3_known_21 rfl ?_
        refine r_goto (tgt := 29) hz dX3_known_22 rfl ?_
        refine r_iload_n hz dX3_known_29 1 rfl ?_
        exact r_iret hz hq dX3_known_30 (Nat.le_of_ble_eq_true rfl) (Nat.le_of_ble_eq_true rfl)
      · refine r_iconst (v := 3) hz dX3_known_13 rfl ?_
        refine r_goto (tgt := 18) hz dX3_known_14 rfl ?_
        refine r_callVi (As := fun _ => [.int (3 : Int32)]) cl3 hz (fun _ _ h => t_X3_refuse _ _ _ _ _ h) cal_X3_refuse dX3_known_18 wm_2_235 wm_2_237 wm_p_4 rfl rfl (Nat.le_of_ble_eq_true rfl) ⟨(Nat.le_of_ble_eq_true rfl), (Nat.le_of_ble_eq_true rfl)⟩ ⟨(Nat.le_of_ble_eq_true rfl), (Nat.le_of_ble_eq_true rfl)⟩ (fun v7 M6 => ?_)
        refine r_pop hz dX3_known_21 rfl ?_
        refine r_goto (tgt := 29) hz dX3_known_22 rfl ?_
        refine r_iload_n hz dX3_known_29 1 rfl ?_
        exact r_iret hz hq dX3_known_30 (Nat.le_of_ble_eq_true rfl) (Nat.le_of_ble_eq_true rfl)
  exact key x M' h ⟨rfl, rfl⟩
theorem dX3_knownHolder_0 : decode cX3_knownHolder 0 = .ok (.aload_n 0, 1) := by decide +kernel
theorem dX3_knownHolder_1 : decode cX3_knownHolder 1 = .ok (.aload_n 0, 1) := by decide +kernel
theorem dX3_knownHolder_2 : decode cX3_knownHolder 2 = .ok (.invokevirtual 200, 3) := by decide +kernel
theorem dX3_knownHolder_5 : decode cX3_knownHolder 5 = .ok (.ifCond .eq 17, 3) := by decide +kernel
theorem dX3_knownHolder_8 : decode cX3_knownHolder 8 = .ok (.aload_n 0, 1) := by decide +kernel
theorem dX3_knownHolder_9 : decode cX3_knownHolder 9 = .ok (.getfield 25, 3) := by decide +kernel
theorem dX3_knownHolder_12 : decode cX3_knownHolder 12 = .ok (.aload_n 0, 1) := by decide +kernel
theorem dX3_knownHolder_13 : decode cX3_knownHolder 13 = .ok (.getfield 38, 3) := by decide +kernel
theorem dX3_knownHolder_16 : decode cX3_knownHolder 16 = .ok (.invokevirtual 207, 3) := by decide +kernel
theorem dX3_knownHolder_19 : decode cX3_knownHolder 19 = .ok (.goto 4, 3) := by decide +kernel
theorem dX3_knownHolder_22 : decode cX3_knownHolder 22 = .ok (.iconst (-1), 1) := by decide +kernel
theorem dX3_knownHolder_23 : decode cX3_knownHolder 23 = .ok (.invokevirtual 210, 3) := by decide +kernel
theorem dX3_knownHolder_26 : decode cX3_knownHolder 26 = .ok (.ireturn, 1) := by decide +kernel
abbrev rX3_knownHolder : Room := { frames := 9, cells := 0, slots := 0, locals := 214 }
theorem cal_X3_knownHolder : CalOk yX3_knownHolder cX3_knownHolder 1 (some .int) 0 := ⟨wm_3_64, wm_1_4, by decide, by decide, by decide +kernel⟩
def f_X3_knownHolder (p0 : Nat) (M : Mm) : Option (Int32 × Mm) :=
  ck (gK M p0 = 3) (bd (f_X3_isName p0 M) fun v2 M1 =>
  (if v2 = 0 then
    ck (gK M1 p0 = 3) (bd (f_X3_known p0 (-1 : Int32) M1) fun v4 M3 =>
    some (v4, M3))
  else
    ck (gK M1 p0 = 3) (bR (gR M1 p0 3) fun q5 => ck (gK M1 p0 = 3) (ck (gK M1 q5 = 6) (bd (f_X6_holderCalled q5 (gI M1 p0 7) M1) fun v7 M6 =>
    ck (gK M6 p0 = 3) (bd (f_X3_known p0 v7 M6) fun v9 M8 =>
    some (v9, M8)))))))
set_option maxRecDepth 20000 in
set_option maxHeartbeats 4000000 in
theorem t_X3_knownHolder (p0 : Nat) (M : Mm) (x : Int32) (M' : Mm) (h : f_X3_knownHolder p0 M = some (x, M')) : Ctr yX3_knownHolder cX3_knownHolder 1 (some .int) rX3_knownHolder (fun _ => [.ref p0]) M (zI x) M' := by
  refine ctr_of (plainFor_of_name (by decide)) (fun _ => Nat.le_of_ble_eq_true rfl) (fun z hz hin hq => ?_)
  have key : Sim z 0 [(0, .ref p0)] [] M 0 0 (f_X3_knownHolder p0 M) (fun a b => a = x ∧ b = M') := by
    have hq : Ret z zI (fun a b => a = x ∧ b = M') := fun a b e => by rw [e.1, e.2]; exact hq
    unfold f_X3_knownHolder
    refine r_aload_n hz dX3_knownHolder_0 0 rfl ?_
    refine r_aload_n hz dX3_knownHolder_1 0 rfl ?_
    refine r_callVi (As := fun _ => []) cl3 hz (fun _ _ h => t_X3_isName _ _ _ _ h) cal_X3_isName dX3_knownHolder_2 wm_3_3 wm_3_5 wm_p_6 rfl rfl (Nat.le_of_ble_eq_true rfl) ⟨(Nat.le_of_ble_eq_true rfl), (Nat.le_of_ble_eq_true rfl)⟩ ⟨(Nat.le_of_ble_eq_true rfl), (Nat.le_of_ble_eq_true rfl)⟩ (fun v2 M1 => ?_)
    refine r_if_eq (tgt := 22) hz dX3_knownHolder_5 rfl ?_ ?_
    · refine r_iconst (v := -1) hz dX3_knownHolder_22 rfl ?_
      refine r_callVi (As := fun _ => [.int (-1 : Int32)]) cl3 hz (fun _ _ h => t_X3_known _ _ _ _ _ h) cal_X3_known dX3_knownHolder_23 wm_3_65 wm_3_67 wm_p_16 rfl rfl (Nat.le_of_ble_eq_true rfl) ⟨(Nat.le_of_ble_eq_true rfl), (Nat.le_of_ble_eq_true rfl)⟩ ⟨(Nat.le_of_ble_eq_true rfl), (Nat.le_of_ble_eq_true rfl)⟩ (fun v4 M3 => ?_)
      exact r_iret hz hq dX3_knownHolder_26 (Nat.le_of_ble_eq_true rfl) (Nat.le_of_ble_eq_true rfl)
    · refine r_aload_n hz dX3_knownHolder_8 0 rfl ?_
      refine r_getR (j := 3) cl3 hz dX3_knownHolder_9 (by decide) wm_1_201 rfl (fun q5 => ?_)
      refine r_aload_n hz dX3_knownHolder_12 0 rfl ?_
      refine r_getI (j := 7) cl3 hz dX3_knownHolder_13 (by decide) wm_1_205 rfl ?_
      refine r_callVi (As := fun _ => [.int (gI M1 p0 7)]) cl6 hz (fun _ _ h => t_X6_holderCalled _ _ _ _ _ h) cal_X6_holderCalled dX3_knownHolder_16 wm_3_24 wm_3_25 wm_3_26 rfl rfl (Nat.le_of_ble_eq_true rfl) ⟨(Nat.le_of_ble_eq_true rfl), (Nat.le_of_ble_eq_true rfl)⟩ ⟨(Nat.le_of_ble_eq_true rfl), (Nat.le_of_ble_eq_true rfl)⟩ (fun v7 M6 => ?_)
      refine r_goto (tgt := 23) hz dX3_knownHolder_19 rfl ?_
      refine r_callVi (As := fun _ => [.int v7]) cl3 hz (fun _ _ h => t_X3_known _ _ _ _ _ h) cal_X3_known dX3_knownHolder_23 wm_3_65 wm_3_67 wm_p_16 rfl rfl (Nat.le_of_ble_eq_true rfl) ⟨(Nat.le_of_ble_eq_true rfl), (Nat.le_of_ble_eq_true rfl)⟩ ⟨(Nat.le_of_ble_eq_true rfl), (Nat.le_of_ble_eq_true rfl)⟩ (fun v9 M8 => ?_)
      exact r_iret hz hq dX3_knownHolder_26 (Nat.le_of_ble_eq_true rfl) (Nat.le_of_ble_eq_true rfl)
  exact key x M' h ⟨rfl, rfl⟩
theorem dX3_knownLoan_0 : decode cX3_knownLoan 0 = .ok (.aload_n 0, 1) := by decide +kernel
theorem dX3_knownLoan_1 : decode cX3_knownLoan 1 = .ok (.aload_n 0, 1) := by decide +kernel
theorem dX3_knownLoan_2 : decode cX3_knownLoan 2 = .ok (.invokevirtual 200, 3) := by decide +kernel
theorem dX3_knownLoan_5 : decode cX3_knownLoan 5 = .ok (.ifCond .eq 17, 3) := by decide +kernel
theorem dX3_knownLoan_8 : decode cX3_knownLoan 8 = .ok (.aload_n 0, 1) := by decide +kernel
theorem dX3_knownLoan_9 : decode cX3_knownLoan 9 = .ok (.getfield 25, 3) := by decide +kernel
theorem dX3_knownLoan_12 : decode cX3_knownLoan 12 = .ok (.aload_n 0, 1) := by decide +kernel
theorem dX3_knownLoan_13 : decode cX3_knownLoan 13 = .ok (.getfield 38, 3) := by decide +kernel
theorem dX3_knownLoan_16 : decode cX3_knownLoan 16 = .ok (.invokevirtual 203, 3) := by decide +kernel
theorem dX3_knownLoan_19 : decode cX3_knownLoan 19 = .ok (.goto 4, 3) := by decide +kernel
theorem dX3_knownLoan_22 : decode cX3_knownLoan 22 = .ok (.iconst (-1), 1) := by decide +kernel
theorem dX3_knownLoan_23 : decode cX3_knownLoan 23 = .ok (.invokevirtual 210, 3) := by decide +kernel
theorem dX3_knownLoan_26 : decode cX3_knownLoan 26 = .ok (.ireturn, 1) := by decide +kernel
abbrev rX3_knownLoan : Room := { frames := 9, cells := 0, slots := 0, locals := 214 }
theorem cal_X3_knownLoan : CalOk yX3_knownLoan cX3_knownLoan 1 (some .int) 0 := ⟨wm_3_72, wm_1_4, by decide, by decide, by decide +kernel⟩
def f_X3_knownLoan (p0 : Nat) (M : Mm) : Option (Int32 × Mm) :=
  ck (gK M p0 = 3) (bd (f_X3_isName p0 M) fun v2 M1 =>
  (if v2 = 0 then
    ck (gK M1 p0 = 3) (bd (f_X3_known p0 (-1 : Int32) M1) fun v4 M3 =>
    some (v4, M3))
  else
    ck (gK M1 p0 = 3) (bR (gR M1 p0 3) fun q5 => ck (gK M1 p0 = 3) (ck (gK M1 q5 = 6) (bd (f_X6_loanCalled q5 (gI M1 p0 7) M1) fun v7 M6 =>
    ck (gK M6 p0 = 3) (bd (f_X3_known p0 v7 M6) fun v9 M8 =>
    some (v9, M8)))))))
set_option maxRecDepth 20000 in
set_option maxHeartbeats 4000000 in
theorem t_X3_knownLoan (p0 : Nat) (M : Mm) (x : Int32) (M' : Mm) (h : f_X3_knownLoan p0 M = some (x, M')) : Ctr yX3_knownLoan cX3_knownLoan 1 (some .int) rX3_knownLoan (fun _ => [.ref p0]) M (zI x) M' := by
  refine ctr_of (plainFor_of_name (by decide)) (fun _ => Nat.le_of_ble_eq_true rfl) (fun z hz hin hq => ?_)
  have key : Sim z 0 [(0, .ref p0)] [] M 0 0 (f_X3_knownLoan p0 M) (fun a b => a = x ∧ b = M') := by
    have hq : Ret z zI (fun a b => a = x ∧ b = M') := fun a b e => by rw [e.1, e.2]; exact hq
    unfold f_X3_knownLoan
    refine r_aload_n hz dX3_knownLoan_0 0 rfl ?_
    refine r_aload_n hz dX3_knownLoan_1 0 rfl ?_
    refine r_callVi (As := fun _ => []) cl3 hz (fun _ _ h => t_X3_isName _ _ _ _ h) cal_X3_isName dX3_knownLoan_2 wm_3_3 wm_3_5 wm_p_6 rfl rfl (Nat.le_of_ble_eq_true rfl) ⟨(Nat.le_of_ble_eq_true rfl), (Nat.le_of_ble_eq_true rfl)⟩ ⟨(Nat.le_of_ble_eq_true rfl), (Nat.le_of_ble_eq_true rfl)⟩ (fun v2 M1 => ?_)
    refine r_if_eq (tgt := 22) hz dX3_knownLoan_5 rfl ?_ ?_
    · refine r_iconst (v := -1) hz dX3_knownLoan_22 rfl ?_
      refine r_callVi (As := fun _ => [.int (-1 : Int32)]) cl3 hz (fun _ _ h => t_X3_known _ _ _ _ _ h) cal_X3_known dX3_knownLoan_23 wm_3_65 wm_3_67 wm_p_16 rfl rfl (Nat.le_of_ble_eq_true rfl) ⟨(Nat.le_of_ble_eq_true rfl), (Nat.le_of_ble_eq_true rfl)⟩ ⟨(Nat.le_of_ble_eq_true rfl), (Nat.le_of_ble_eq_true rfl)⟩ (fun v4 M3 => ?_)
      exact r_iret hz hq dX3_knownLoan_26 (Nat.le_of_ble_eq_true rfl) (Nat.le_of_ble_eq_true rfl)
    · refine r_aload_n hz dX3_knownLoan_8 0 rfl ?_
      refine r_getR (j := 3) cl3 hz dX3_knownLoan_9 (by decide) wm_1_201 rfl (fun q5 => ?_)
      refine r_aload_n hz dX3_knownLoan_12 0 rfl ?_
      refine r_getI (j := 7) cl3 hz dX3_knownLoan_13 (by decide) wm_1_205 rfl ?_
      refine r_callVi (As := fun _ => [.int (gI M1 p0 7)]) cl6 hz (fun _ _ h => t_X6_loanCalled _ _ _ _ _ h) cal_X6_loanCalled dX3_knownLoan_16 wm_3_20 wm_3_21 wm_3_22 rfl rfl (Nat.le_of_ble_eq_true rfl) ⟨(Nat.le_of_ble_eq_true rfl), (Nat.le_of_ble_eq_true rfl)⟩ ⟨(Nat.le_of_ble_eq_true rfl), (Nat.le_of_ble_eq_true rfl)⟩ (fun v7 M6 => ?_)
      refine r_goto (tgt := 23) hz dX3_knownLoan_19 rfl ?_
      refine r_callVi (As := fun _ => [.int v7]) cl3 hz (fun _ _ h => t_X3_known _ _ _ _ _ h) cal_X3_known dX3_knownLoan_23 wm_3_65 wm_3_67 wm_p_16 rfl rfl (Nat.le_of_ble_eq_true rfl) ⟨(Nat.le_of_ble_eq_true rfl), (Nat.le_of_ble_eq_true rfl)⟩ ⟨(Nat.le_of_ble_eq_true rfl), (Nat.le_of_ble_eq_true rfl)⟩ (fun v9 M8 => ?_)
      exact r_iret hz hq dX3_knownLoan_26 (Nat.le_of_ble_eq_true rfl) (Nat.le_of_ble_eq_true rfl)
  exact key x M' h ⟨rfl, rfl⟩
theorem dX6_anyHeld_0 : decode cX6_anyHeld 0 = .ok (.iload_n 2, 1) := by decide +kernel
theorem dX6_anyHeld_1 : decode cX6_anyHeld 1 = .ok (.istore 4, 2) := by decide +kernel
theorem dX6_anyHeld_3 : decode cX6_anyHeld 3 = .ok (.iload 4, 2) := by decide +kernel
theorem dX6_anyHeld_5 : decode cX6_anyHeld 5 = .ok (.iload_n 3, 1) := by decide +kernel
theorem dX6_anyHeld_6 : decode cX6_anyHeld 6 = .ok (.if_icmp .gt 26, 3) := by decide +kernel
theorem dX6_anyHeld_9 : decode cX6_anyHeld 9 = .ok (.aload_n 0, 1) := by decide +kernel
theorem dX6_anyHeld_10 : decode cX6_anyHeld 10 = .ok (.getfield 58, 3) := by decide +kernel
theorem dX6_anyHeld_13 : decode cX6_anyHeld 13 = .ok (.iload_n 1, 1) := by decide +kernel
theorem dX6_anyHeld_14 : decode cX6_anyHeld 14 = .ok (.iload 4, 2) := by decide +kernel
theorem dX6_anyHeld_16 : decode cX6_anyHeld 16 = .ok (.invokestatic 73, 3) := by decide +kernel
theorem dX6_anyHeld_19 : decode cX6_anyHeld 19 = .ok (.iaload, 1) := by decide +kernel
theorem dX6_anyHeld_20 : decode cX6_anyHeld 20 = .ok (.iconst (-1), 1) := by decide +kernel
theorem dX6_anyHeld_21 : decode cX6_anyHeld 21 = .ok (.if_icmp .eq 5, 3) := by decide +kernel
theorem dX6_anyHeld_24 : decode cX6_anyHeld 24 = .ok (.iconst 1, 1) := by decide +kernel
theorem dX6_anyHeld_25 : decode cX6_anyHeld 25 = .ok (.ireturn, 1) := by decide +kernel
theorem dX6_anyHeld_26 : decode cX6_anyHeld 26 = .ok (.iinc 4 1, 3) := by decide +kernel
theorem dX6_anyHeld_29 : decode cX6_anyHeld 29 = .ok (.goto (-26), 3) := by decide +kernel
theorem dX6_anyHeld_32 : decode cX6_anyHeld 32 = .ok (.iconst 0, 1) := by decide +kernel
theorem dX6_anyHeld_33 : decode cX6_anyHeld 33 = .ok (.ireturn, 1) := by decide +kernel
abbrev rX6_anyHeld : Room := { frames := 1, cells := 0, slots := 0, locals := 21 }
theorem cal_X6_anyHeld : CalOk yX6_anyHeld cX6_anyHeld 5 (some .boolean) 3 := ⟨wm_3_76, wm_1_2, by decide, by decide, by decide +kernel⟩
def f_X6_anyHeld_3 : Nat → Nat → Int32 → Int32 → Int32 → Mm → Option (Int32 × Mm)
  | 0, _, _, _, _, _ => none
  | n + 1, x0, x1, x3, x4, M =>
    (if x3 < x4 then
      some ((0 : Int32), M)
    else
      ck (gK M x0 = 6) (bR (gR M x0 15) fun q1 => bd (f_X7_spotOf x1 x4 M) fun v3 M2 =>
      ck (gK M2 q1 = 10 ∧ inb v3 (gN M2 q1)) ((if (gI M2 q1 (v3).toNatClampNeg) = (-1 : Int32) then
        f_X6_anyHeld_3 n x0 x1 x3 (x4 + (1 : Int32)) M2
      else
        some ((1 : Int32), M2)))))
set_option maxRecDepth 20000 in
set_option maxHeartbeats 4000000 in
theorem s_X6_anyHeld_3 {z : Zt} {K : Int32 → Mm → Prop} (hz : Good z RX6 cX6_anyHeld 5 rX6_anyHeld (some .boolean)) (hq : Ret z zI K) : ∀ (n : Nat) (x0 : Nat) (x1 : Int32) (x3 : Int32) (x4 : Int32) (M : Mm), Sim z 3 [(0, .ref x0), (1, .int x1), (3, .int x3), (4, .int x4)] [] M 0 0 (f_X6_anyHeld_3 n x0 x1 x3 x4 M) K := by
  intro n
  induction n with
  | zero => exact fun _ _ _ _ _ => r_none
  | succ n ih =>
    intro x0 x1 x3 x4 M
    unfold f_X6_anyHeld_3
    refine r_iload hz dX6_anyHeld_3 3 rfl ?_
    refine r_iload_n hz dX6_anyHeld_5 2 rfl ?_
    refine r_icmp_gt (tgt := 32) hz dX6_anyHeld_6 rfl ?_ ?_
    · refine r_iconst (v := 0) hz dX6_anyHeld_32 rfl ?_
      exact r_zret hz hq dX6_anyHeld_33 (Or.inl rfl) (Nat.le_of_ble_eq_true rfl) (Nat.le_of_ble_eq_true rfl)
    · refine r_aload_n hz dX6_anyHeld_9 0 rfl ?_
      refine r_getR (j := 15) cl6 hz dX6_anyHeld_10 (by decide) wm_1_88 rfl (fun q1 => ?_)
      refine r_iload_n hz dX6_anyHeld_13 1 rfl ?_
      refine r_iload hz dX6_anyHeld_14 3 rfl ?_
      refine r_callSNi (As := fun _ => [.int x1, .int x4]) (host := "DrawnBonds") hz (fun _ _ h => t_X7_spotOf _ _ _ _ _ h) cal_X7_spotOf dX6_anyHeld_16 (List.mem_of_getElem? (i := 8) rfl) wm_3_78 rfl rfl (Nat.le_of_ble_eq_true rfl) ⟨(Nat.le_of_ble_eq_true rfl), (Nat.le_of_ble_eq_true rfl)⟩ ⟨(Nat.le_of_ble_eq_true rfl), (Nat.le_of_ble_eq_true rfl)⟩ (fun v3 M2 => ?_)
      refine r_iald hz dX6_anyHeld_19 ?_
      refine r_iconst (v := -1) hz dX6_anyHeld_20 rfl ?_
      refine r_icmp_eq (tgt := 26) hz dX6_anyHeld_21 rfl ?_ ?_
      · refine r_iinc (v := (x4 + (1 : Int32))) (lv' := [(4, .int (x4 + (1 : Int32))), (0, .ref x0), (1, .int x1), (3, .int x3)]) hz dX6_anyHeld_26 3 rfl rfl (by decide) rfl ?_
        refine r_goto (tgt := 3) hz dX6_anyHeld_29 rfl ?_
        refine r_sub [1, 2, 3, 0] rfl ?_
        exact ih x0 x1 x3 (x4 + (1 : Int32)) M2
      · refine r_iconst (v := 1) hz dX6_anyHeld_24 rfl ?_
        exact r_zret hz hq dX6_anyHeld_25 (Or.inr rfl) (Nat.le_of_ble_eq_true rfl) (Nat.le_of_ble_eq_true rfl)
def f_X6_anyHeld (p0 : Nat) (p1 : Int32) (p2 : Int32) (p3 : Int32) (M : Mm) : Option (Int32 × Mm) :=
  f_X6_anyHeld_3 FU p0 p1 p3 p2 M
set_option maxRecDepth 20000 in
set_option maxHeartbeats 4000000 in
theorem t_X6_anyHeld (p0 : Nat) (p1 : Int32) (p2 : Int32) (p3 : Int32) (M : Mm) (x : Int32) (M' : Mm) (h : f_X6_anyHeld p0 p1 p2 p3 M = some (x, M')) : Ctr yX6_anyHeld cX6_anyHeld 5 (some .boolean) rX6_anyHeld (fun _ => [.ref p0, .int p1, .int p2, .int p3]) M (zI x) M' := by
  refine ctr_of (plainFor_of_name (by decide)) (fun _ => Nat.le_of_ble_eq_true rfl) (fun z hz hin hq => ?_)
  have key : Sim z 0 [(0, .ref p0), (1, .int p1), (2, .int p2), (3, .int p3)] [] M 0 0 (f_X6_anyHeld p0 p1 p2 p3 M) (fun a b => a = x ∧ b = M') := by
    have hq : Ret z zI (fun a b => a = x ∧ b = M') := fun a b e => by rw [e.1, e.2]; exact hq
    unfold f_X6_anyHeld
    refine r_iload_n hz dX6_anyHeld_0 2 rfl ?_
    refine r_istore (lv' := [(4, .int p2), (0, .ref p0), (1, .int p1), (2, .int p2), (3, .int p3)]) hz dX6_anyHeld_1 (by decide) rfl ?_
    refine r_sub [1, 2, 4, 0] rfl ?_
    exact s_X6_anyHeld_3 hz hq FU p0 p1 p3 p2 M
  exact key x M' h ⟨rfl, rfl⟩
theorem dX6_hold_0 : decode cX6_hold 0 = .ok (.iload_n 3, 1) := by decide +kernel
theorem dX6_hold_1 : decode cX6_hold 1 = .ok (.istore 5, 2) := by decide +kernel
theorem dX6_hold_3 : decode cX6_hold 3 = .ok (.iload 5, 2) := by decide +kernel
theorem dX6_hold_5 : decode cX6_hold 5 = .ok (.iload 4, 2) := by decide +kernel
theorem dX6_hold_7 : decode cX6_hold 7 = .ok (.if_icmp .gt 21, 3) := by decide +kernel
theorem dX6_hold_10 : decode cX6_hold 10 = .ok (.aload_n 0, 1) := by decide +kernel
theorem dX6_hold_11 : decode cX6_hold 11 = .ok (.getfield 58, 3) := by decide +kernel
theorem dX6_hold_14 : decode cX6_hold 14 = .ok (.iload_n 2, 1) := by decide +kernel
theorem dX6_hold_15 : decode cX6_hold 15 = .ok (.iload 5, 2) := by decide +kernel
theorem dX6_hold_17 : decode cX6_hold 17 = .ok (.invokestatic 73, 3) := by decide +kernel
theorem dX6_hold_20 : decode cX6_hold 20 = .ok (.iload_n 1, 1) := by decide +kernel
theorem dX6_hold_21 : decode cX6_hold 21 = .ok (.iastore, 1) := by decide +kernel
theorem dX6_hold_22 : decode cX6_hold 22 = .ok (.iinc 5 1, 3) := by decide +kernel
theorem dX6_hold_25 : decode cX6_hold 25 = .ok (.goto (-22), 3) := by decide +kernel
theorem dX6_hold_28 : decode cX6_hold 28 = .ok (.return_, 1) := by decide +kernel
abbrev rX6_hold : Room := { frames := 1, cells := 0, slots := 0, locals := 21 }
theorem cal_X6_hold : CalOk yX6_hold cX6_hold 6 none 4 := ⟨wm_3_83, wm_1_2, by decide, by decide, by decide +kernel⟩
def f_X6_hold_3 : Nat → Nat → Int32 → Int32 → Int32 → Int32 → Mm → Option (Unit × Mm)
  | 0, _, _, _, _, _, _ => none
  | n + 1, x0, x1, x2, x4, x5, M =>
    (if x4 < x5 then
      some ((), M)
    else
      ck (gK M x0 = 6) (bR (gR M x0 15) fun q1 => bd (f_X7_spotOf x2 x5 M) fun v3 M2 =>
      ck (gK M2 q1 = 10 ∧ inb v3 (gN M2 q1)) (nm (sI M2 q1 (v3).toNatClampNeg x1) fun M4 =>
      f_X6_hold_3 n x0 x1 x2 x4 (x5 + (1 : Int32)) M4)))
set_option maxRecDepth 20000 in
set_option maxHeartbeats 4000000 in
theorem s_X6_hold_3 {z : Zt} {K : Unit → Mm → Prop} (hz : Good z RX6 cX6_hold 6 rX6_hold none) (hq : Ret z zU K) : ∀ (n : Nat) (x0 : Nat) (x1 : Int32) (x2 : Int32) (x4 : Int32) (x5 : Int32) (M : Mm), Sim z 3 [(0, .ref x0), (1, .int x1), (2, .int x2), (4, .int x4), (5, .int x5)] [] M 0 0 (f_X6_hold_3 n x0 x1 x2 x4 x5 M) K := by
  intro n
  induction n with
  | zero => exact fun _ _ _ _ _ _ => r_none
  | succ n ih =>
    intro x0 x1 x2 x4 x5 M
    unfold f_X6_hold_3
    refine r_iload hz dX6_hold_3 4 rfl ?_
    refine r_iload hz dX6_hold_5 3 rfl ?_
    refine r_icmp_gt (tgt := 28) hz dX6_hold_7 rfl ?_ ?_
    · exact r_vret hz hq dX6_hold_28 (Nat.le_of_ble_eq_true rfl) (Nat.le_of_ble_eq_true rfl)
    · refine r_aload_n hz dX6_hold_10 0 rfl ?_
      refine r_getR (j := 15) cl6 hz dX6_hold_11 (by decide) wm_1_88 rfl (fun q1 => ?_)
      refine r_iload_n hz dX6_hold_14 2 rfl ?_
      refine r_iload hz dX6_hold_15 4 rfl ?_
      refine r_callSNi (As := fun _ => [.int x2, .int x5]) (host := "DrawnBonds") hz (fun _ _ h => t_X7_spotOf _ _ _ _ _ h) cal_X7_spotOf dX6_hold_17 (List.mem_of_getElem? (i := 8) rfl) wm_3_78 rfl rfl (Nat.le_of_ble_eq_true rfl) ⟨(Nat.le_of_ble_eq_true rfl), (Nat.le_of_ble_eq_true rfl)⟩ ⟨(Nat.le_of_ble_eq_true rfl), (Nat.le_of_ble_eq_true rfl)⟩ (fun v3 M2 => ?_)
      refine r_iload_n hz dX6_hold_20 1 rfl ?_
      refine r_iast hz dX6_hold_21 ?_
      refine r_nmM (fun M4 => ?_)
      refine r_iinc (v := (x5 + (1 : Int32))) (lv' := [(5, .int (x5 + (1 : Int32))), (0, .ref x0), (1, .int x1), (2, .int x2), (4, .int x4)]) hz dX6_hold_22 4 rfl rfl (by decide) rfl ?_
      refine r_goto (tgt := 3) hz dX6_hold_25 rfl ?_
      refine r_sub [1, 2, 3, 4, 0] rfl ?_
      exact ih x0 x1 x2 x4 (x5 + (1 : Int32)) M4
def f_X6_hold (p0 : Nat) (p1 : Int32) (p2 : Int32) (p3 : Int32) (p4 : Int32) (M : Mm) : Option (Unit × Mm) :=
  f_X6_hold_3 FU p0 p1 p2 p4 p3 M
set_option maxRecDepth 20000 in
set_option maxHeartbeats 4000000 in
theorem t_X6_hold (p0 : Nat) (p1 : Int32) (p2 : Int32) (p3 : Int32) (p4 : Int32) (M : Mm) (x : Unit) (M' : Mm) (h : f_X6_hold p0 p1 p2 p3 p4 M = some (x, M')) : Ctr yX6_hold cX6_hold 6 none rX6_hold (fun _ => [.ref p0, .int p1, .int p2, .int p3, .int p4]) M (zU x) M' := by
  refine ctr_of (plainFor_of_name (by decide)) (fun _ => Nat.le_of_ble_eq_true rfl) (fun z hz hin hq => ?_)
  have key : Sim z 0 [(0, .ref p0), (1, .int p1), (2, .int p2), (3, .int p3), (4, .int p4)] [] M 0 0 (f_X6_hold p0 p1 p2 p3 p4 M) (fun a b => a = x ∧ b = M') := by
    have hq : Ret z zU (fun a b => a = x ∧ b = M') := fun a b e => by rw [e.1, e.2]; exact hq
    unfold f_X6_hold
    refine r_iload_n hz dX6_hold_0 3 rfl ?_
    refine r_istore (lv' := [(5, .int p3), (0, .ref p0), (1, .int p1), (2, .int p2), (3, .int p3), (4, .int p4)]) hz dX6_hold_1 (by decide) rfl ?_
    refine r_sub [1, 2, 3, 5, 0] rfl ?_
    exact s_X6_hold_3 hz hq FU p0 p1 p2 p4 p3 M
  exact key x M' h ⟨rfl, rfl⟩
theorem dX3_readHolds_0 : decode cX3_readHolds 0 = .ok (.aload_n 0, 1) := by decide +kernel
theorem dX3_readHolds_1 : decode cX3_readHolds 1 = .ok (.getfield 25, 3) := by decide +kernel
theorem dX3_readHolds_4 : decode cX3_readHolds 4 = .ok (.getfield 158, 3) := by decide +kernel
theorem dX3_readHolds_7 : decode cX3_readHolds 7 = .ok (.bipush 20, 2) := by decide +kernel
theorem dX3_readHolds_9 : decode cX3_readHolds 9 = .ok (.if_icmp .lt 9, 3) := by decide +kernel
theorem dX3_readHolds_12 : decode cX3_readHolds 12 = .ok (.aload_n 0, 1) := by decide +kernel
theorem dX3_readHolds_13 : decode cX3_readHolds 13 = .ok (.iconst 5, 1) := by decide +kernel
theorem dX3_readHolds_14 : decode cX3_readHolds 14 = .ok (.invokevirtual 86, 3) := by decide +kernel
theorem dX3_readHolds_17 : decode cX3_readHolds 17 = .ok (.ireturn, 1) := by decide +kernel
theorem dX3_readHolds_18 : decode cX3_readHolds 18 = .ok (.aload_n 0, 1) := by decide +kernel
theorem dX3_readHolds_19 : decode cX3_readHolds 19 = .ok (.getfield 25, 3) := by decide +kernel
theorem dX3_readHolds_22 : decode cX3_readHolds 22 = .ok (.dup, 1) := by decide +kernel
theorem dX3_readHolds_23 : decode cX3_readHolds 23 = .ok (.getfield 158, 3) := by decide +kernel
theorem dX3_readHolds_26 : decode cX3_readHolds 26 = .ok (.iconst 1, 1) := by decide +kernel
theorem dX3_readHolds_27 : decode cX3_readHolds 27 = .ok (.iadd, 1) := by decide +kernel
theorem dX3_readHolds_28 : decode cX3_readHolds 28 = .ok (.putfield 158, 3) := by decide +kernel
theorem dX3_readHolds_31 : decode cX3_readHolds 31 = .ok (.aload_n 0, 1) := by decide +kernel
theorem dX3_readHolds_32 : decode cX3_readHolds 32 = .ok (.invokevirtual 53, 3) := by decide +kernel
theorem dX3_readHolds_35 : decode cX3_readHolds 35 = .ok (.aload_n 0, 1) := by decide +kernel
theorem dX3_readHolds_36 : decode cX3_readHolds 36 = .ok (.invokevirtual 161, 3) := by decide +kernel
theorem dX3_readHolds_39 : decode cX3_readHolds 39 = .ok (.istore_n 1, 1) := by decide +kernel
theorem dX3_readHolds_40 : decode cX3_readHolds 40 = .ok (.iload_n 1, 1) := by decide +kernel
theorem dX3_readHolds_41 : decode cX3_readHolds 41 = .ok (.iconst (-1), 1) := by decide +kernel
theorem dX3_readHolds_42 : decode cX3_readHolds 42 = .ok (.if_icmp .ne 5, 3) := by decide +kernel
theorem dX3_readHolds_45 : decode cX3_readHolds 45 = .ok (.iconst 0, 1) := by decide +kernel
theorem dX3_readHolds_46 : decode cX3_readHolds 46 = .ok (.ireturn, 1) := by decide +kernel
theorem dX3_readHolds_47 : decode cX3_readHolds 47 = .ok (.aload_n 0, 1) := by decide +kernel
theorem dX3_readHolds_48 : decode cX3_readHolds 48 = .ok (.invokevirtual 165, 3) := by decide +kernel
theorem dX3_readHolds_51 : decode cX3_readHolds 51 = .ok (.istore_n 2, 1) := by decide +kernel
theorem dX3_readHolds_52 : decode cX3_readHolds 52 = .ok (.iload_n 2, 1) := by decide +kernel
theorem dX3_readHolds_53 : decode cX3_readHolds 53 = .ok (.iconst (-1), 1) := by decide +kernel
theorem dX3_readHolds_54 : decode cX3_readHolds 54 = .ok (.if_icmp .eq 20, 3) := by decide +kernel
theorem dX3_readHolds_57 : decode cX3_readHolds 57 = .ok (.aload_n 0, 1) := by decide +kernel
theorem dX3_readHolds_58 : decode cX3_readHolds 58 = .ok (.iconst 1, 1) := by decide +kernel
theorem dX3_readHolds_59 : decode cX3_readHolds 59 = .ok (.aload_n 0, 1) := by decide +kernel
theorem dX3_readHolds_60 : decode cX3_readHolds 60 = .ok (.getfield 25, 3) := by decide +kernel
theorem dX3_readHolds_63 : decode cX3_readHolds 63 = .ok (.getfield 105, 3) := by decide +kernel
theorem dX3_readHolds_66 : decode cX3_readHolds 66 = .ok (.iload_n 2, 1) := by decide +kernel
theorem dX3_readHolds_67 : decode cX3_readHolds 67 = .ok (.iaload, 1) := by decide +kernel
theorem dX3_readHolds_68 : decode cX3_readHolds 68 = .ok (.invokevirtual 168, 3) := by decide +kernel
theorem dX3_readHolds_71 : decode cX3_readHolds 71 = .ok (.ifCond .ne 5, 3) := by decide +kernel
theorem dX3_readHolds_74 : decode cX3_readHolds 74 = .ok (.iconst 0, 1) := by decide +kernel
theorem dX3_readHolds_75 : decode cX3_readHolds 75 = .ok (.ireturn, 1) := by decide +kernel
theorem dX3_readHolds_76 : decode cX3_readHolds 76 = .ok (.aload_n 0, 1) := by decide +kernel
theorem dX3_readHolds_77 : decode cX3_readHolds 77 = .ok (.getfield 38, 3) := by decide +kernel
theorem dX3_readHolds_80 : decode cX3_readHolds 80 = .ok (.istore_n 3, 1) := by decide +kernel
theorem dX3_readHolds_81 : decode cX3_readHolds 81 = .ok (.aload_n 0, 1) := by decide +kernel
theorem dX3_readHolds_82 : decode cX3_readHolds 82 = .ok (.invokevirtual 53, 3) := by decide +kernel
theorem dX3_readHolds_85 : decode cX3_readHolds 85 = .ok (.aload_n 0, 1) := by decide +kernel
theorem dX3_readHolds_86 : decode cX3_readHolds 86 = .ok (.iload_n 3, 1) := by decide +kernel
theorem dX3_readHolds_87 : decode cX3_readHolds 87 = .ok (.aload_n 0, 1) := by decide +kernel
theorem dX3_readHolds_88 : decode cX3_readHolds 88 = .ok (.getfield 25, 3) := by decide +kernel
theorem dX3_readHolds_91 : decode cX3_readHolds 91 = .ok (.getfield 105, 3) := by decide +kernel
theorem dX3_readHolds_94 : decode cX3_readHolds 94 = .ok (.iload_n 2, 1) := by decide +kernel
theorem dX3_readHolds_95 : decode cX3_readHolds 95 = .ok (.iaload, 1) := by decide +kernel
theorem dX3_readHolds_96 : decode cX3_readHolds 96 = .ok (.invokevirtual 168, 3) := by decide +kernel
theorem dX3_readHolds_99 : decode cX3_readHolds 99 = .ok (.ifCond .ne 5, 3) := by decide +kernel
theorem dX3_readHolds_102 : decode cX3_readHolds 102 = .ok (.iconst 0, 1) := by decide +kernel
theorem dX3_readHolds_103 : decode cX3_readHolds 103 = .ok (.ireturn, 1) := by decide +kernel
theorem dX3_readHolds_104 : decode cX3_readHolds 104 = .ok (.aload_n 0, 1) := by decide +kernel
theorem dX3_readHolds_105 : decode cX3_readHolds 105 = .ok (.getfield 25, 3) := by decide +kernel
theorem dX3_readHolds_108 : decode cX3_readHolds 108 = .ok (.iload_n 2, 1) := by decide +kernel
theorem dX3_readHolds_109 : decode cX3_readHolds 109 = .ok (.iload_n 3, 1) := by decide +kernel
theorem dX3_readHolds_110 : decode cX3_readHolds 110 = .ok (.aload_n 0, 1) := by decide +kernel
theorem dX3_readHolds_111 : decode cX3_readHolds 111 = .ok (.getfield 38, 3) := by decide +kernel
theorem dX3_readHolds_114 : decode cX3_readHolds 114 = .ok (.invokevirtual 172, 3) := by decide +kernel
theorem dX3_readHolds_117 : decode cX3_readHolds 117 = .ok (.ifCond .eq 9, 3) := by decide +kernel
theorem dX3_readHolds_120 : decode cX3_readHolds 120 = .ok (.aload_n 0, 1) := by decide +kernel
theorem dX3_readHolds_121 : decode cX3_readHolds 121 = .ok (.iconst 2, 1) := by decide +kernel
theorem dX3_readHolds_122 : decode cX3_readHolds 122 = .ok (.invokevirtual 86, 3) := by decide +kernel
theorem dX3_readHolds_125 : decode cX3_readHolds 125 = .ok (.ireturn, 1) := by decide +kernel
theorem dX3_readHolds_126 : decode cX3_readHolds 126 = .ok (.aload_n 0, 1) := by decide +kernel
theorem dX3_readHolds_127 : decode cX3_readHolds 127 = .ok (.getfield 25, 3) := by decide +kernel
theorem dX3_readHolds_130 : decode cX3_readHolds 130 = .ok (.iload_n 1, 1) := by decide +kernel
theorem dX3_readHolds_131 : decode cX3_readHolds 131 = .ok (.iload_n 2, 1) := by decide +kernel
theorem dX3_readHolds_132 : decode cX3_readHolds 132 = .ok (.iload_n 3, 1) := by decide +kernel
theorem dX3_readHolds_133 : decode cX3_readHolds 133 = .ok (.aload_n 0, 1) := by decide +kernel
theorem dX3_readHolds_134 : decode cX3_readHolds 134 = .ok (.getfield 38, 3) := by decide +kernel
theorem dX3_readHolds_137 : decode cX3_readHolds 137 = .ok (.invokevirtual 176, 3) := by decide +kernel
theorem dX3_readHolds_140 : decode cX3_readHolds 140 = .ok (.aload_n 0, 1) := by decide +kernel
theorem dX3_readHolds_141 : decode cX3_readHolds 141 = .ok (.invokevirtual 53, 3) := by decide +kernel
theorem dX3_readHolds_144 : decode cX3_readHolds 144 = .ok (.aload_n 0, 1) := by decide +kernel
theorem dX3_readHolds_145 : decode cX3_readHolds 145 = .ok (.invokevirtual 129, 3) := by decide +kernel
theorem dX3_readHolds_148 : decode cX3_readHolds 148 = .ok (.ireturn, 1) := by decide +kernel
abbrev rX3_readHolds : Room := { frames := 10, cells := 0, slots := 0, locals := 234 }
theorem cal_X3_readHolds : CalOk yX3_readHolds cX3_readHolds 4 (some .boolean) 0 := ⟨wm_3_60, wm_1_4, by decide, by decide, by decide +kernel⟩
def f_X3_readHolds (p0 : Nat) (M : Mm) : Option (Int32 × Mm) :=
  ck (gK M p0 = 3) (bR (gR M p0 3) fun q1 => ck (gK M q1 = 6) ((if (gI M q1 2) < (20 : Int32) then
    ck (gK M p0 = 3) (bR (gR M p0 3) fun q2 => ck (gK M q2 = 6) (ck (gK M q2 = 6) (nm (sI M q2 2 ((gI M q2 2) + (1 : Int32))) fun M3 =>
    ck (gK M3 p0 = 3) (bd (f_X3_advance p0 M3) fun _ M4 =>
    ck (gK M4 p0 = 3) (bd (f_X3_knownHolder p0 M4) fun v6 M5 =>
    (if ¬ v6 = (-1 : Int32) then
      ck (gK M5 p0 = 3) (bd (f_X3_knownLoan p0 M5) fun v8 M7 =>
      (if v8 = (-1 : Int32) then
        some ((0 : Int32), M7)
      else
        ck (gK M7 p0 = 3) (bR (gR M7 p0 3) fun q9 => ck (gK M7 q9 = 6) (bR (gR M7 q9 6) fun q10 => ck (gK M7 q10 = 10 ∧ inb v8 (gN M7 q10)) (ck (gK M7 p0 = 3) (bd (f_X3_fits p0 (1 : Int32) (gI M7 q10 (v8).toNatClampNeg) M7) fun v12 M11 =>
        (if ¬ v12 = 0 then
          ck (gK M11 p0 = 3) (nm (gI M11 p0 7) fun v13 =>
          ck (gK M11 p0 = 3) (bd (f_X3_advance p0 M11) fun _ M14 =>
          ck (gK M14 p0 = 3) (bR (gR M14 p0 3) fun q15 => ck (gK M14 q15 = 6) (bR (gR M14 q15 6) fun q16 => ck (gK M14 q16 = 10 ∧ inb v8 (gN M14 q16)) (ck (gK M14 p0 = 3) (bd (f_X3_fits p0 v13 (gI M14 q16 (v8).toNatClampNeg) M14) fun v18 M17 =>
          (if ¬ v18 = 0 then
            ck (gK M17 p0 = 3) (bR (gR M17 p0 3) fun q19 => ck (gK M17 p0 = 3) (ck (gK M17 q19 = 6) (bd (f_X6_anyHeld q19 v8 v13 (gI M17 p0 7) M17) fun v21 M20 =>
            (if v21 = 0 then
              ck (gK M20 p0 = 3) (bR (gR M20 p0 3) fun q22 => ck (gK M20 p0 = 3) (ck (gK M20 q22 = 6) (bd (f_X6_hold q22 v6 v8 v13 (gI M20 p0 7) M20) fun _ M23 =>
              ck (gK M23 p0 = 3) (bd (f_X3_advance p0 M23) fun _ M24 =>
              ck (gK M24 p0 = 3) (bd (f_X3_sign p0 M24) fun v26 M25 =>
              ck (v26 = 0 ∨ v26 = 1) (some (v26, M25)))))))
            else
              ck (gK M20 p0 = 3) (bd (f_X3_refuse p0 (2 : Int32) M20) fun v29 M28 =>
              ck (v29 = 0 ∨ v29 = 1) (some (v29, M28)))))))
          else
            some ((0 : Int32), M17))))))))
        else
          some ((0 : Int32), M11))))))))
    else
      some ((0 : Int32), M5)))))))
  else
    ck (gK M p0 = 3) (bd (f_X3_refuse p0 (5 : Int32) M) fun v32 M31 =>
    ck (v32 = 0 ∨ v32 = 1) (some (v32, M31))))))
set_option maxRecDepth 20000 in
set_option maxHeartbeats 4000000 in
theorem t_X3_readHolds (p0 : Nat) (M : Mm) (x : Int32) (M' : Mm) (h : f_X3_readHolds p0 M = some (x, M')) : Ctr yX3_readHolds cX3_readHolds 4 (some .boolean) rX3_readHolds (fun _ => [.ref p0]) M (zI x) M' := by
  refine ctr_of (plainFor_of_name (by decide)) (fun _ => Nat.le_of_ble_eq_true rfl) (fun z hz hin hq => ?_)
  have key : Sim z 0 [(0, .ref p0)] [] M 0 0 (f_X3_readHolds p0 M) (fun a b => a = x ∧ b = M') := by
    have hq : Ret z zI (fun a b => a = x ∧ b = M') := fun a b e => by rw [e.1, e.2]; exact hq
    unfold f_X3_readHolds
    refine r_aload_n hz dX3_readHolds_0 0 rfl ?_
    refine r_getR (j := 3) cl3 hz dX3_readHolds_1 (by decide) wm_1_201 rfl (fun q1 => ?_)
    refine r_getI (j := 2) cl6 hz dX3_readHolds_4 (by decide) wm_1_44 rfl ?_
    refine r_bipush (v := 20) hz dX3_readHolds_7 rfl ?_
    refine r_icmp_lt (tgt := 18) hz dX3_readHolds_9 rfl ?_ ?_
    · refine r_aload_n hz dX3_readHolds_18 0 rfl ?_
      refine r_getR (j := 3) cl3 hz dX3_readHolds_19 (by decide) wm_1_201 rfl (fun q2 => ?_)
      refine r_dup hz dX3_readHolds_22 rfl ?_
      refine r_getI (j := 2) cl6 hz dX3_readHolds_23 (by decide) wm_1_44 rfl ?_
      refine r_iconst (v := 1) hz dX3_readHolds_26 rfl ?_
      refine r_iadd hz dX3_readHolds_27 ?_
      refine r_putI (j := 2) cl6 hz dX3_readHolds_28 (by decide) wm_1_44 (Or.inl rfl) rfl rfl rfl ?_
      refine r_nmM (fun M3 => ?_)
      refine r_aload_n hz dX3_readHolds_31 0 rfl ?_
      refine r_callVv (As := fun _ => []) cl3 hz (fun _ _ h => t_X3_advance _ _ _ _ h) cal_X3_advance dX3_readHolds_32 wm_2_167 wm_2_169 wm_p_0 rfl rfl (Nat.le_of_ble_eq_true rfl) ⟨(Nat.le_of_ble_eq_true rfl), (Nat.le_of_ble_eq_true rfl)⟩ ⟨(Nat.le_of_ble_eq_true rfl), (Nat.le_of_ble_eq_true rfl)⟩ (fun _ M4 => ?_)
      refine r_aload_n hz dX3_readHolds_35 0 rfl ?_
      refine r_callVi (As := fun _ => []) cl3 hz (fun _ _ h => t_X3_knownHolder _ _ _ _ h) cal_X3_knownHolder dX3_readHolds_36 wm_3_61 wm_3_63 wm_p_15 rfl rfl (Nat.le_of_ble_eq_true rfl) ⟨(Nat.le_of_ble_eq_true rfl), (Nat.le_of_ble_eq_true rfl)⟩ ⟨(Nat.le_of_ble_eq_true rfl), (Nat.le_of_ble_eq_true rfl)⟩ (fun v6 M5 => ?_)
      refine r_istore_n (lv' := [(1, .int v6), (0, .ref p0)]) hz dX3_readHolds_39 (by decide) rfl ?_
      refine r_iload_n hz dX3_readHolds_40 0 rfl ?_
      refine r_iconst (v := -1) hz dX3_readHolds_41 rfl ?_
      refine r_icmp_ne (tgt := 47) hz dX3_readHolds_42 rfl ?_ ?_
      · refine r_aload_n hz dX3_readHolds_47 1 rfl ?_
        refine r_callVi (As := fun _ => []) cl3 hz (fun _ _ h => t_X3_knownLoan _ _ _ _ h) cal_X3_knownLoan dX3_readHolds_48 wm_3_69 wm_3_71 wm_p_17 rfl rfl (Nat.le_of_ble_eq_true rfl) ⟨(Nat.le_of_ble_eq_true rfl), (Nat.le_of_ble_eq_true rfl)⟩ ⟨(Nat.le_of_ble_eq_true rfl), (Nat.le_of_ble_eq_true rfl)⟩ (fun v8 M7 => ?_)
        refine r_istore_n (lv' := [(2, .int v8), (1, .int v6), (0, .ref p0)]) hz dX3_readHolds_51 (by decide) rfl ?_
        refine r_iload_n hz dX3_readHolds_52 0 rfl ?_
        refine r_iconst (v := -1) hz dX3_readHolds_53 rfl ?_
        refine r_icmp_eq (tgt := 74) hz dX3_readHolds_54 rfl ?_ ?_
        · refine r_iconst (v := 0) hz dX3_readHolds_74 rfl ?_
          exact r_zret hz hq dX3_readHolds_75 (Or.inl rfl) (Nat.le_of_ble_eq_true rfl) (Nat.le_of_ble_eq_true rfl)
        · refine r_aload_n hz dX3_readHolds_57 2 rfl ?_
          refine r_iconst (v := 1) hz dX3_readHolds_58 rfl ?_
          refine r_aload_n hz dX3_readHolds_59 2 rfl ?_
          refine r_getR (j := 3) cl3 hz dX3_readHolds_60 (by decide) wm_1_201 rfl (fun q9 => ?_)
          refine r_getR (j := 6) cl6 hz dX3_readHolds_63 (by decide) wm_1_55 rfl (fun q10 => ?_)
          refine r_iload_n hz dX3_readHolds_66 0 rfl ?_
          refine r_iald hz dX3_readHolds_67 ?_
          refine r_callVi (As := fun _ => [.int (1 : Int32), .int (gI M7 q10 (v8).toNatClampNeg)]) cl3 hz (fun _ _ h => t_X3_fits _ _ _ _ _ _ h) cal_X3_fits dX3_readHolds_68 wm_3_36 wm_3_38 wm_p_9 rfl rfl (Nat.le_of_ble_eq_true rfl) ⟨(Nat.le_of_ble_eq_true rfl), (Nat.le_of_ble_eq_true rfl)⟩ ⟨(Nat.le_of_ble_eq_true rfl), (Nat.le_of_ble_eq_true rfl)⟩ (fun v12 M11 => ?_)
          refine r_if_ne (tgt := 76) hz dX3_readHolds_71 rfl ?_ ?_
          · refine r_aload_n hz dX3_readHolds_76 2 rfl ?_
            refine r_getI (j := 7) cl3 hz dX3_readHolds_77 (by decide) wm_1_205 rfl ?_
            refine r_nmi (fun v13 => ?_)
            refine r_istore_n (lv' := [(3, .int v13), (2, .int v8), (1, .int v6), (0, .ref p0)]) hz dX3_readHolds_80 (by decide) rfl ?_
            refine r_aload_n hz dX3_readHolds_81 3 rfl ?_
            refine r_callVv (As := fun _ => []) cl3 hz (fun _ _ h => t_X3_advance _ _ _ _ h) cal_X3_advance dX3_readHolds_82 wm_2_167 wm_2_169 wm_p_0 rfl rfl (Nat.le_of_ble_eq_true rfl) ⟨(Nat.le_of_ble_eq_true rfl), (Nat.le_of_ble_eq_true rfl)⟩ ⟨(Nat.le_of_ble_eq_true rfl), (Nat.le_of_ble_eq_true rfl)⟩ (fun _ M14 => ?_)
            refine r_aload_n hz dX3_readHolds_85 3 rfl ?_
            refine r_iload_n hz dX3_readHolds_86 0 rfl ?_
            refine r_aload_n hz dX3_readHolds_87 3 rfl ?_
            refine r_getR (j := 3) cl3 hz dX3_readHolds_88 (by decide) wm_1_201 rfl (fun q15 => ?_)
            refine r_getR (j := 6) cl6 hz dX3_readHolds_91 (by decide) wm_1_55 rfl (fun q16 => ?_)
            refine r_iload_n hz dX3_readHolds_94 1 rfl ?_
            refine r_iald hz dX3_readHolds_95 ?_
            refine r_callVi (As := fun _ => [.int v13, .int (gI M14 q16 (v8).toNatClampNeg)]) cl3 hz (fun _ _ h => t_X3_fits _ _ _ _ _ _ h) cal_X3_fits dX3_readHolds_96 wm_3_36 wm_3_38 wm_p_9 rfl rfl (Nat.le_of_ble_eq_true rfl) ⟨(Nat.le_of_ble_eq_true rfl), (Nat.le_of_ble_eq_true rfl)⟩ ⟨(Nat.le_of_ble_eq_true rfl), (Nat.le_of_ble_eq_true rfl)⟩ (fun v18 M17 => ?_)
            refine r_if_ne (tgt := 104) hz dX3_readHolds_99 rfl ?_ ?_
            · refine r_aload_n hz dX3_readHolds_104 3 rfl ?_
              refine r_getR (j := 3) cl3 hz dX3_readHolds_105 (by decide) wm_1_201 rfl (fun q19 => ?_)
              refine r_iload_n hz dX3_readHolds_108 1 rfl ?_
              refine r_iload_n hz dX3_readHolds_109 0 rfl ?_
              refine r_aload_n hz dX3_readHolds_110 3 rfl ?_
              refine r_getI (j := 7) cl3 hz dX3_readHolds_111 (by decide) wm_1_205 rfl ?_
              refine r_callVi (As := fun _ => [.int v8, .int v13, .int (gI M17 p0 7)]) cl6 hz (fun _ _ h => t_X6_anyHeld _ _ _ _ _ _ _ h) cal_X6_anyHeld dX3_readHolds_114 wm_3_73 wm_3_74 wm_3_75 rfl rfl (Nat.le_of_ble_eq_true rfl) ⟨(Nat.le_of_ble_eq_true rfl), (Nat.le_of_ble_eq_true rfl)⟩ ⟨(Nat.le_of_ble_eq_true rfl), (Nat.le_of_ble_eq_true rfl)⟩ (fun v21 M20 => ?_)
              refine r_if_eq (tgt := 126) hz dX3_readHolds_117 rfl ?_ ?_
              · refine r_aload_n hz dX3_readHolds_126 3 rfl ?_
                refine r_getR (j := 3) cl3 hz dX3_readHolds_127 (by decide) wm_1_201 rfl (fun q22 => ?_)
                refine r_iload_n hz dX3_readHolds_130 2 rfl ?_
                refine r_iload_n hz dX3_readHolds_131 1 rfl ?_
                refine r_iload_n hz dX3_readHolds_132 0 rfl ?_
                refine r_aload_n hz dX3_readHolds_133 3 rfl ?_
                refine r_getI (j := 7) cl3 hz dX3_readHolds_134 (by decide) wm_1_205 rfl ?_
                refine r_callVv (As := fun _ => [.int v6, .int v8, .int v13, .int (gI M20 p0 7)]) cl6 hz (fun _ _ h => t_X6_hold _ _ _ _ _ _ _ _ h) cal_X6_hold dX3_readHolds_137 wm_3_80 wm_3_81 wm_3_82 rfl rfl (Nat.le_of_ble_eq_true rfl) ⟨(Nat.le_of_ble_eq_true rfl), (Nat.le_of_ble_eq_true rfl)⟩ ⟨(Nat.le_of_ble_eq_true rfl), (Nat.le_of_ble_eq_true rfl)⟩ (fun _ M23 => ?_)
                refine r_aload_n hz dX3_readHolds_140 3 rfl ?_
                refine r_callVv (As := fun _ => []) cl3 hz (fun _ _ h => t_X3_advance _ _ _ _ h) cal_X3_advance dX3_readHolds_141 wm_2_167 wm_2_169 wm_p_0 rfl rfl (Nat.le_of_ble_eq_true rfl) ⟨(Nat.le_of_ble_eq_true rfl), (Nat.le_of_ble_eq_true rfl)⟩ ⟨(Nat.le_of_ble_eq_true rfl), (Nat.le_of_ble_eq_true rfl)⟩ (fun _ M24 => ?_)
                refine r_aload_n hz dX3_readHolds_144 3 rfl ?_
                refine r_callVi (As := fun _ => []) cl3 hz (fun _ _ h => t_X3_sign _ _ _ _ h) cal_X3_sign dX3_readHolds_145 wm_3_49 wm_3_51 wm_p_12 rfl rfl (Nat.le_of_ble_eq_true rfl) ⟨(Nat.le_of_ble_eq_true rfl), (Nat.le_of_ble_eq_true rfl)⟩ ⟨(Nat.le_of_ble_eq_true rfl), (Nat.le_of_ble_eq_true rfl)⟩ (fun v26 M25 => ?_)
                refine r_ck (fun h27 => ?_)
                exact r_zret hz hq dX3_readHolds_148 h27 (Nat.le_of_ble_eq_true rfl) (Nat.le_of_ble_eq_true rfl)
              · refine r_aload_n hz dX3_readHolds_120 3 rfl ?_
                refine r_iconst (v := 2) hz dX3_readHolds_121 rfl ?_
                refine r_callVi (As := fun _ => [.int (2 : Int32)]) cl3 hz (fun _ _ h => t_X3_refuse _ _ _ _ _ h) cal_X3_refuse dX3_readHolds_122 wm_2_235 wm_2_237 wm_p_4 rfl rfl (Nat.le_of_ble_eq_true rfl) ⟨(Nat.le_of_ble_eq_true rfl), (Nat.le_of_ble_eq_true rfl)⟩ ⟨(Nat.le_of_ble_eq_true rfl), (Nat.le_of_ble_eq_true rfl)⟩ (fun v29 M28 => ?_)
                refine r_ck (fun h30 => ?_)
                exact r_zret hz hq dX3_readHolds_125 h30 (Nat.le_of_ble_eq_true rfl) (Nat.le_of_ble_eq_true rfl)
            · refine r_iconst (v := 0) hz dX3_readHolds_102 rfl ?_
              exact r_zret hz hq dX3_readHolds_103 (Or.inl rfl) (Nat.le_of_ble_eq_true rfl) (Nat.le_of_ble_eq_true rfl)
          · refine r_iconst (v := 0) hz dX3_readHolds_74 rfl ?_
            exact r_zret hz hq dX3_readHolds_75 (Or.inl rfl) (Nat.le_of_ble_eq_true rfl) (Nat.le_of_ble_eq_true rfl)
      · refine r_iconst (v := 0) hz dX3_readHolds_45 rfl ?_
        exact r_zret hz hq dX3_readHolds_46 (Or.inl rfl) (Nat.le_of_ble_eq_true rfl) (Nat.le_of_ble_eq_true rfl)
    · refine r_aload_n hz dX3_readHolds_12 0 rfl ?_
      refine r_iconst (v := 5) hz dX3_readHolds_13 rfl ?_
      refine r_callVi (As := fun _ => [.int (5 : Int32)]) cl3 hz (fun _ _ h => t_X3_refuse _ _ _ _ _ h) cal_X3_refuse dX3_readHolds_14 wm_2_235 wm_2_237 wm_p_4 rfl rfl (Nat.le_of_ble_eq_true rfl) ⟨(Nat.le_of_ble_eq_true rfl), (Nat.le_of_ble_eq_true rfl)⟩ ⟨(Nat.le_of_ble_eq_true rfl), (Nat.le_of_ble_eq_true rfl)⟩ (fun v32 M31 => ?_)
      refine r_ck (fun h33 => ?_)
      exact r_zret hz hq dX3_readHolds_17 h33 (Nat.le_of_ble_eq_true rfl) (Nat.le_of_ble_eq_true rfl)
  exact key x M' h ⟨rfl, rfl⟩
theorem dX6_rankOf_0 : decode cX6_rankOf 0 = .ok (.iload_n 0, 1) := by decide +kernel
theorem dX6_rankOf_1 : decode cX6_rankOf 1 = .ok (.bipush 10, 2) := by decide +kernel
theorem dX6_rankOf_3 : decode cX6_rankOf 3 = .ok (.imul, 1) := by decide +kernel
theorem dX6_rankOf_4 : decode cX6_rankOf 4 = .ok (.iload_n 1, 1) := by decide +kernel
theorem dX6_rankOf_5 : decode cX6_rankOf 5 = .ok (.iadd, 1) := by decide +kernel
theorem dX6_rankOf_6 : decode cX6_rankOf 6 = .ok (.ireturn, 1) := by decide +kernel
abbrev rX6_rankOf : Room := { frames := 0, cells := 0, slots := 0, locals := 0 }
theorem cal_X6_rankOf : CalOk yX6_rankOf cX6_rankOf 2 (some .int) 2 := ⟨wm_3_90, wm_1_2, by decide, by decide, by decide +kernel⟩
def f_X6_rankOf (p0 : Int32) (p1 : Int32) (M : Mm) : Option (Int32 × Mm) :=
  some (((p0 * (10 : Int32)) + p1), M)
set_option maxRecDepth 20000 in
set_option maxHeartbeats 4000000 in
theorem t_X6_rankOf (p0 : Int32) (p1 : Int32) (M : Mm) (x : Int32) (M' : Mm) (h : f_X6_rankOf p0 p1 M = some (x, M')) : Ctr yX6_rankOf cX6_rankOf 2 (some .int) rX6_rankOf (fun _ => [.int p0, .int p1]) M (zI x) M' := by
  refine ctr_of (plainFor_of_name (by decide)) (fun _ => Nat.le_of_ble_eq_true rfl) (fun z hz hin hq => ?_)
  have key : Sim z 0 [(0, .int p0), (1, .int p1)] [] M 0 0 (f_X6_rankOf p0 p1 M) (fun a b => a = x ∧ b = M') := by
    have hq : Ret z zI (fun a b => a = x ∧ b = M') := fun a b e => by rw [e.1, e.2]; exact hq
    unfold f_X6_rankOf
    refine r_iload_n hz dX6_rankOf_0 0 rfl ?_
    refine r_bipush (v := 10) hz dX6_rankOf_1 rfl ?_
    refine r_imul hz dX6_rankOf_3 ?_
    refine r_iload_n hz dX6_rankOf_4 1 rfl ?_
    refine r_iadd hz dX6_rankOf_5 ?_
    exact r_iret hz hq dX6_rankOf_6 (Nat.le_of_ble_eq_true rfl) (Nat.le_of_ble_eq_true rfl)
  exact key x M' h ⟨rfl, rfl⟩
theorem dX3_sumOnce_0 : decode cX3_sumOnce 0 = .ok (.aload_n 1, 1) := by decide +kernel
theorem dX3_sumOnce_1 : decode cX3_sumOnce 1 = .ok (.iload_n 2, 1) := by decide +kernel
theorem dX3_sumOnce_2 : decode cX3_sumOnce 2 = .ok (.iaload, 1) := by decide +kernel
theorem dX3_sumOnce_3 : decode cX3_sumOnce 3 = .ok (.ifCond .eq 9, 3) := by decide +kernel
theorem dX3_sumOnce_6 : decode cX3_sumOnce 6 = .ok (.aload_n 0, 1) := by decide +kernel
theorem dX3_sumOnce_7 : decode cX3_sumOnce 7 = .ok (.iconst 2, 1) := by decide +kernel
theorem dX3_sumOnce_8 : decode cX3_sumOnce 8 = .ok (.invokevirtual 86, 3) := by decide +kernel
theorem dX3_sumOnce_11 : decode cX3_sumOnce 11 = .ok (.ireturn, 1) := by decide +kernel
theorem dX3_sumOnce_12 : decode cX3_sumOnce 12 = .ok (.aload_n 0, 1) := by decide +kernel
theorem dX3_sumOnce_13 : decode cX3_sumOnce 13 = .ok (.invokevirtual 53, 3) := by decide +kernel
theorem dX3_sumOnce_16 : decode cX3_sumOnce 16 = .ok (.aload_n 0, 1) := by decide +kernel
theorem dX3_sumOnce_17 : decode cX3_sumOnce 17 = .ok (.aload_n 1, 1) := by decide +kernel
theorem dX3_sumOnce_18 : decode cX3_sumOnce 18 = .ok (.iload_n 2, 1) := by decide +kernel
theorem dX3_sumOnce_19 : decode cX3_sumOnce 19 = .ok (.iconst 1, 1) := by decide +kernel
theorem dX3_sumOnce_20 : decode cX3_sumOnce 20 = .ok (.iload_n 3, 1) := by decide +kernel
theorem dX3_sumOnce_21 : decode cX3_sumOnce 21 = .ok (.invokevirtual 107, 3) := by decide +kernel
theorem dX3_sumOnce_24 : decode cX3_sumOnce 24 = .ok (.ifCond .eq 14, 3) := by decide +kernel
theorem dX3_sumOnce_27 : decode cX3_sumOnce 27 = .ok (.aload_n 0, 1) := by decide +kernel
theorem dX3_sumOnce_28 : decode cX3_sumOnce 28 = .ok (.invokevirtual 129, 3) := by decide +kernel
theorem dX3_sumOnce_31 : decode cX3_sumOnce 31 = .ok (.ifCond .eq 7, 3) := by decide +kernel
theorem dX3_sumOnce_34 : decode cX3_sumOnce 34 = .ok (.iconst 1, 1) := by decide +kernel
theorem dX3_sumOnce_35 : decode cX3_sumOnce 35 = .ok (.goto 4, 3) := by decide +kernel
theorem dX3_sumOnce_38 : decode cX3_sumOnce 38 = .ok (.iconst 0, 1) := by decide +kernel
theorem dX3_sumOnce_39 : decode cX3_sumOnce 39 = .ok (.ireturn, 1) := by decide +kernel
abbrev rX3_sumOnce : Room := { frames := 3, cells := 0, slots := 0, locals := 69 }
theorem cal_X3_sumOnce : CalOk yX3_sumOnce cX3_sumOnce 4 (some .boolean) 3 := ⟨wm_3_94, wm_1_4, by decide, by decide, by decide +kernel⟩
def f_X3_sumOnce (p0 : Nat) (p1 : Nat) (p2 : Int32) (p3 : Int32) (M : Mm) : Option (Int32 × Mm) :=
  ck (gK M p1 = 10 ∧ inb p2 (gN M p1)) ((if (gI M p1 (p2).toNatClampNeg) = 0 then
    ck (gK M p0 = 3) (bd (f_X3_advance p0 M) fun _ M1 =>
    ck (gK M1 p0 = 3) (bd (f_X3_number p0 p1 p2 (1 : Int32) p3 M1) fun v3 M2 =>
    (if v3 = 0 then
      some ((0 : Int32), M2)
    else
      ck (gK M2 p0 = 3) (bd (f_X3_sign p0 M2) fun v5 M4 =>
      (if v5 = 0 then
        some ((0 : Int32), M4)
      else
        some ((1 : Int32), M4))))))
  else
    ck (gK M p0 = 3) (bd (f_X3_refuse p0 (2 : Int32) M) fun v7 M6 =>
    ck (v7 = 0 ∨ v7 = 1) (some (v7, M6)))))
set_option maxRecDepth 20000 in
set_option maxHeartbeats 4000000 in
theorem t_X3_sumOnce (p0 : Nat) (p1 : Nat) (p2 : Int32) (p3 : Int32) (M : Mm) (x : Int32) (M' : Mm) (h : f_X3_sumOnce p0 p1 p2 p3 M = some (x, M')) : Ctr yX3_sumOnce cX3_sumOnce 4 (some .boolean) rX3_sumOnce (fun _ => [.ref p0, .ref p1, .int p2, .int p3]) M (zI x) M' := by
  refine ctr_of (plainFor_of_name (by decide)) (fun _ => Nat.le_of_ble_eq_true rfl) (fun z hz hin hq => ?_)
  have key : Sim z 0 [(0, .ref p0), (1, .ref p1), (2, .int p2), (3, .int p3)] [] M 0 0 (f_X3_sumOnce p0 p1 p2 p3 M) (fun a b => a = x ∧ b = M') := by
    have hq : Ret z zI (fun a b => a = x ∧ b = M') := fun a b e => by rw [e.1, e.2]; exact hq
    unfold f_X3_sumOnce
    refine r_aload_n hz dX3_sumOnce_0 1 rfl ?_
    refine r_iload_n hz dX3_sumOnce_1 2 rfl ?_
    refine r_iald hz dX3_sumOnce_2 ?_
    refine r_if_eq (tgt := 12) hz dX3_sumOnce_3 rfl ?_ ?_
    · refine r_aload_n hz dX3_sumOnce_12 0 rfl ?_
      refine r_callVv (As := fun _ => []) cl3 hz (fun _ _ h => t_X3_advance _ _ _ _ h) cal_X3_advance dX3_sumOnce_13 wm_2_167 wm_2_169 wm_p_0 rfl rfl (Nat.le_of_ble_eq_true rfl) ⟨(Nat.le_of_ble_eq_true rfl), (Nat.le_of_ble_eq_true rfl)⟩ ⟨(Nat.le_of_ble_eq_true rfl), (Nat.le_of_ble_eq_true rfl)⟩ (fun _ M1 => ?_)
      refine r_aload_n hz dX3_sumOnce_16 0 rfl ?_
      refine r_aload_n hz dX3_sumOnce_17 1 rfl ?_
      refine r_iload_n hz dX3_sumOnce_18 2 rfl ?_
      refine r_iconst (v := 1) hz dX3_sumOnce_19 rfl ?_
      refine r_iload_n hz dX3_sumOnce_20 3 rfl ?_
      refine r_callVi (As := fun _ => [.ref p1, .int p2, .int (1 : Int32), .int p3]) cl3 hz (fun _ _ h => t_X3_number _ _ _ _ _ _ _ _ h) cal_X3_number dX3_sumOnce_21 wm_3_32 wm_3_34 wm_p_8 rfl rfl (Nat.le_of_ble_eq_true rfl) ⟨(Nat.le_of_ble_eq_true rfl), (Nat.le_of_ble_eq_true rfl)⟩ ⟨(Nat.le_of_ble_eq_true rfl), (Nat.le_of_ble_eq_true rfl)⟩ (fun v3 M2 => ?_)
      refine r_if_eq (tgt := 38) hz dX3_sumOnce_24 rfl ?_ ?_
      · refine r_iconst (v := 0) hz dX3_sumOnce_38 rfl ?_
        exact r_zret hz hq dX3_sumOnce_39 (Or.inl rfl) (Nat.le_of_ble_eq_true rfl) (Nat.le_of_ble_eq_true rfl)
      · refine r_aload_n hz dX3_sumOnce_27 0 rfl ?_
        refine r_callVi (As := fun _ => []) cl3 hz (fun _ _ h => t_X3_sign _ _ _ _ h) cal_X3_sign dX3_sumOnce_28 wm_3_49 wm_3_51 wm_p_12 rfl rfl (Nat.le_of_ble_eq_true rfl) ⟨(Nat.le_of_ble_eq_true rfl), (Nat.le_of_ble_eq_true rfl)⟩ ⟨(Nat.le_of_ble_eq_true rfl), (Nat.le_of_ble_eq_true rfl)⟩ (fun v5 M4 => ?_)
        refine r_if_eq (tgt := 38) hz dX3_sumOnce_31 rfl ?_ ?_
        · refine r_iconst (v := 0) hz dX3_sumOnce_38 rfl ?_
          exact r_zret hz hq dX3_sumOnce_39 (Or.inl rfl) (Nat.le_of_ble_eq_true rfl) (Nat.le_of_ble_eq_true rfl)
        · refine r_iconst (v := 1) hz dX3_sumOnce_34 rfl ?_
          refine r_goto (tgt := 39) hz dX3_sumOnce_35 rfl ?_
          exact r_zret hz hq dX3_sumOnce_39 (Or.inr rfl) (Nat.le_of_ble_eq_true rfl) (Nat.le_of_ble_eq_true rfl)
    · refine r_aload_n hz dX3_sumOnce_6 0 rfl ?_
      refine r_iconst (v := 2) hz dX3_sumOnce_7 rfl ?_
      refine r_callVi (As := fun _ => [.int (2 : Int32)]) cl3 hz (fun _ _ h => t_X3_refuse _ _ _ _ _ h) cal_X3_refuse dX3_sumOnce_8 wm_2_235 wm_2_237 wm_p_4 rfl rfl (Nat.le_of_ble_eq_true rfl) ⟨(Nat.le_of_ble_eq_true rfl), (Nat.le_of_ble_eq_true rfl)⟩ ⟨(Nat.le_of_ble_eq_true rfl), (Nat.le_of_ble_eq_true rfl)⟩ (fun v7 M6 => ?_)
      refine r_ck (fun h8 => ?_)
      exact r_zret hz hq dX3_sumOnce_11 h8 (Nat.le_of_ble_eq_true rfl) (Nat.le_of_ble_eq_true rfl)
  exact key x M' h ⟨rfl, rfl⟩
theorem dX3_readPrize_0 : decode cX3_readPrize 0 = .ok (.aload_n 0, 1) := by decide +kernel
theorem dX3_readPrize_1 : decode cX3_readPrize 1 = .ok (.getfield 25, 3) := by decide +kernel
theorem dX3_readPrize_4 : decode cX3_readPrize 4 = .ok (.getfield 180, 3) := by decide +kernel
theorem dX3_readPrize_7 : decode cX3_readPrize 7 = .ok (.bipush 12, 2) := by decide +kernel
theorem dX3_readPrize_9 : decode cX3_readPrize 9 = .ok (.if_icmp .lt 9, 3) := by decide +kernel
theorem dX3_readPrize_12 : decode cX3_readPrize 12 = .ok (.aload_n 0, 1) := by decide +kernel
theorem dX3_readPrize_13 : decode cX3_readPrize 13 = .ok (.iconst 5, 1) := by decide +kernel
theorem dX3_readPrize_14 : decode cX3_readPrize 14 = .ok (.invokevirtual 86, 3) := by decide +kernel
theorem dX3_readPrize_17 : decode cX3_readPrize 17 = .ok (.ireturn, 1) := by decide +kernel
theorem dX3_readPrize_18 : decode cX3_readPrize 18 = .ok (.aload_n 0, 1) := by decide +kernel
theorem dX3_readPrize_19 : decode cX3_readPrize 19 = .ok (.getfield 25, 3) := by decide +kernel
theorem dX3_readPrize_22 : decode cX3_readPrize 22 = .ok (.dup, 1) := by decide +kernel
theorem dX3_readPrize_23 : decode cX3_readPrize 23 = .ok (.getfield 180, 3) := by decide +kernel
theorem dX3_readPrize_26 : decode cX3_readPrize 26 = .ok (.iconst 1, 1) := by decide +kernel
theorem dX3_readPrize_27 : decode cX3_readPrize 27 = .ok (.iadd, 1) := by decide +kernel
theorem dX3_readPrize_28 : decode cX3_readPrize 28 = .ok (.putfield 180, 3) := by decide +kernel
theorem dX3_readPrize_31 : decode cX3_readPrize 31 = .ok (.aload_n 0, 1) := by decide +kernel
theorem dX3_readPrize_32 : decode cX3_readPrize 32 = .ok (.invokevirtual 53, 3) := by decide +kernel
theorem dX3_readPrize_35 : decode cX3_readPrize 35 = .ok (.aload_n 0, 1) := by decide +kernel
theorem dX3_readPrize_36 : decode cX3_readPrize 36 = .ok (.invokevirtual 165, 3) := by decide +kernel
theorem dX3_readPrize_39 : decode cX3_readPrize 39 = .ok (.istore_n 1, 1) := by decide +kernel
theorem dX3_readPrize_40 : decode cX3_readPrize 40 = .ok (.iload_n 1, 1) := by decide +kernel
theorem dX3_readPrize_41 : decode cX3_readPrize 41 = .ok (.iconst (-1), 1) := by decide +kernel
theorem dX3_readPrize_42 : decode cX3_readPrize 42 = .ok (.if_icmp .eq 13, 3) := by decide +kernel
theorem dX3_readPrize_45 : decode cX3_readPrize 45 = .ok (.aload_n 0, 1) := by decide +kernel
theorem dX3_readPrize_46 : decode cX3_readPrize 46 = .ok (.iconst 1, 1) := by decide +kernel
theorem dX3_readPrize_47 : decode cX3_readPrize 47 = .ok (.bipush 9, 2) := by decide +kernel
theorem dX3_readPrize_49 : decode cX3_readPrize 49 = .ok (.invokevirtual 168, 3) := by decide +kernel
theorem dX3_readPrize_52 : decode cX3_readPrize 52 = .ok (.ifCond .ne 5, 3) := by decide +kernel
theorem dX3_readPrize_55 : decode cX3_readPrize 55 = .ok (.iconst 0, 1) := by decide +kernel
theorem dX3_readPrize_56 : decode cX3_readPrize 56 = .ok (.ireturn, 1) := by decide +kernel
theorem dX3_readPrize_57 : decode cX3_readPrize 57 = .ok (.aload_n 0, 1) := by decide +kernel
theorem dX3_readPrize_58 : decode cX3_readPrize 58 = .ok (.aload_n 0, 1) := by decide +kernel
theorem dX3_readPrize_59 : decode cX3_readPrize 59 = .ok (.getfield 25, 3) := by decide +kernel
theorem dX3_readPrize_62 : decode cX3_readPrize 62 = .ok (.getfield 183, 3) := by decide +kernel
theorem dX3_readPrize_65 : decode cX3_readPrize 65 = .ok (.iload_n 1, 1) := by decide +kernel
theorem dX3_readPrize_66 : decode cX3_readPrize 66 = .ok (.aload_n 0, 1) := by decide +kernel
theorem dX3_readPrize_67 : decode cX3_readPrize 67 = .ok (.getfield 38, 3) := by decide +kernel
theorem dX3_readPrize_70 : decode cX3_readPrize 70 = .ok (.invokestatic 185, 3) := by decide +kernel
theorem dX3_readPrize_73 : decode cX3_readPrize 73 = .ok (.sipush 9999, 3) := by decide +kernel
theorem dX3_readPrize_76 : decode cX3_readPrize 76 = .ok (.invokevirtual 188, 3) := by decide +kernel
theorem dX3_readPrize_79 : decode cX3_readPrize 79 = .ok (.ireturn, 1) := by decide +kernel
abbrev rX3_readPrize : Room := { frames := 10, cells := 0, slots := 0, locals := 234 }
theorem cal_X3_readPrize : CalOk yX3_readPrize cX3_readPrize 2 (some .boolean) 0 := ⟨wm_3_87, wm_1_4, by decide, by decide, by decide +kernel⟩
def f_X3_readPrize (p0 : Nat) (M : Mm) : Option (Int32 × Mm) :=
  ck (gK M p0 = 3) (bR (gR M p0 3) fun q1 => ck (gK M q1 = 6) ((if (gI M q1 3) < (12 : Int32) then
    ck (gK M p0 = 3) (bR (gR M p0 3) fun q2 => ck (gK M q2 = 6) (ck (gK M q2 = 6) (nm (sI M q2 3 ((gI M q2 3) + (1 : Int32))) fun M3 =>
    ck (gK M3 p0 = 3) (bd (f_X3_advance p0 M3) fun _ M4 =>
    ck (gK M4 p0 = 3) (bd (f_X3_knownLoan p0 M4) fun v6 M5 =>
    (if v6 = (-1 : Int32) then
      some ((0 : Int32), M5)
    else
      ck (gK M5 p0 = 3) (bd (f_X3_fits p0 (1 : Int32) (9 : Int32) M5) fun v8 M7 =>
      (if ¬ v8 = 0 then
        ck (gK M7 p0 = 3) (bR (gR M7 p0 3) fun q9 => ck (gK M7 q9 = 6) (bR (gR M7 q9 16) fun q10 => ck (gK M7 p0 = 3) (bd (f_X6_rankOf v6 (gI M7 p0 7) M7) fun v12 M11 =>
        ck (gK M11 p0 = 3) (bd (f_X3_sumOnce p0 q10 v12 (9999 : Int32) M11) fun v14 M13 =>
        ck (v14 = 0 ∨ v14 = 1) (some (v14, M13))))))
      else
        some ((0 : Int32), M7)))))))))
  else
    ck (gK M p0 = 3) (bd (f_X3_refuse p0 (5 : Int32) M) fun v17 M16 =>
    ck (v17 = 0 ∨ v17 = 1) (some (v17, M16))))))
set_option maxRecDepth 20000 in
set_option maxHeartbeats 4000000 in
theorem t_X3_readPrize (p0 : Nat) (M : Mm) (x : Int32) (M' : Mm) (h : f_X3_readPrize p0 M = some (x, M')) : Ctr yX3_readPrize cX3_readPrize 2 (some .boolean) rX3_readPrize (fun _ => [.ref p0]) M (zI x) M' := by
  refine ctr_of (plainFor_of_name (by decide)) (fun _ => Nat.le_of_ble_eq_true rfl) (fun z hz hin hq => ?_)
  have key : Sim z 0 [(0, .ref p0)] [] M 0 0 (f_X3_readPrize p0 M) (fun a b => a = x ∧ b = M') := by
    have hq : Ret z zI (fun a b => a = x ∧ b = M') := fun a b e => by rw [e.1, e.2]; exact hq
    unfold f_X3_readPrize
    refine r_aload_n hz dX3_readPrize_0 0 rfl ?_
    refine r_getR (j := 3) cl3 hz dX3_readPrize_1 (by decide) wm_1_201 rfl (fun q1 => ?_)
    refine r_getI (j := 3) cl6 hz dX3_readPrize_4 (by decide) wm_1_46 rfl ?_
    refine r_bipush (v := 12) hz dX3_readPrize_7 rfl ?_
    refine r_icmp_lt (tgt := 18) hz dX3_readPrize_9 rfl ?_ ?_
    · refine r_aload_n hz dX3_readPrize_18 0 rfl ?_
      refine r_getR (j := 3) cl3 hz dX3_readPrize_19 (by decide) wm_1_201 rfl (fun q2 => ?_)
      refine r_dup hz dX3_readPrize_22 rfl ?_
      refine r_getI (j := 3) cl6 hz dX3_readPrize_23 (by decide) wm_1_46 rfl ?_
      refine r_iconst (v := 1) hz dX3_readPrize_26 rfl ?_
      refine r_iadd hz dX3_readPrize_27 ?_
      refine r_putI (j := 3) cl6 hz dX3_readPrize_28 (by decide) wm_1_46 (Or.inl rfl) rfl rfl rfl ?_
      refine r_nmM (fun M3 => ?_)
      refine r_aload_n hz dX3_readPrize_31 0 rfl ?_
      refine r_callVv (As := fun _ => []) cl3 hz (fun _ _ h => t_X3_advance _ _ _ _ h) cal_X3_advance dX3_readPrize_32 wm_2_167 wm_2_169 wm_p_0 rfl rfl (Nat.le_of_ble_eq_true rfl) ⟨(Nat.le_of_ble_eq_true rfl), (Nat.le_of_ble_eq_true rfl)⟩ ⟨(Nat.le_of_ble_eq_true rfl), (Nat.le_of_ble_eq_true rfl)⟩ (fun _ M4 => ?_)
      refine r_aload_n hz dX3_readPrize_35 0 rfl ?_
      refine r_callVi (As := fun _ => []) cl3 hz (fun _ _ h => t_X3_knownLoan _ _ _ _ h) cal_X3_knownLoan dX3_readPrize_36 wm_3_69 wm_3_71 wm_p_17 rfl rfl (Nat.le_of_ble_eq_true rfl) ⟨(Nat.le_of_ble_eq_true rfl), (Nat.le_of_ble_eq_true rfl)⟩ ⟨(Nat.le_of_ble_eq_true rfl), (Nat.le_of_ble_eq_true rfl)⟩ (fun v6 M5 => ?_)
      refine r_istore_n (lv' := [(1, .int v6), (0, .ref p0)]) hz dX3_readPrize_39 (by decide) rfl ?_
      refine r_iload_n hz dX3_readPrize_40 0 rfl ?_
      refine r_iconst (v := -1) hz dX3_readPrize_41 rfl ?_
      refine r_icmp_eq (tgt := 55) hz dX3_readPrize_42 rfl ?_ ?_
      · refine r_iconst (v := 0) hz dX3_readPrize_55 rfl ?_
        exact r_zret hz hq dX3_readPrize_56 (Or.inl rfl) (Nat.le_of_ble_eq_true rfl) (Nat.le_of_ble_eq_true rfl)
      · refine r_aload_n hz dX3_readPrize_45 1 rfl ?_
        refine r_iconst (v := 1) hz dX3_readPrize_46 rfl ?_
        refine r_bipush (v := 9) hz dX3_readPrize_47 rfl ?_
        refine r_callVi (As := fun _ => [.int (1 : Int32), .int (9 : Int32)]) cl3 hz (fun _ _ h => t_X3_fits _ _ _ _ _ _ h) cal_X3_fits dX3_readPrize_49 wm_3_36 wm_3_38 wm_p_9 rfl rfl (Nat.le_of_ble_eq_true rfl) ⟨(Nat.le_of_ble_eq_true rfl), (Nat.le_of_ble_eq_true rfl)⟩ ⟨(Nat.le_of_ble_eq_true rfl), (Nat.le_of_ble_eq_true rfl)⟩ (fun v8 M7 => ?_)
        refine r_if_ne (tgt := 57) hz dX3_readPrize_52 rfl ?_ ?_
        · refine r_aload_n hz dX3_readPrize_57 1 rfl ?_
          refine r_aload_n hz dX3_readPrize_58 1 rfl ?_
          refine r_getR (j := 3) cl3 hz dX3_readPrize_59 (by decide) wm_1_201 rfl (fun q9 => ?_)
          refine r_getR (j := 16) cl6 hz dX3_readPrize_62 (by decide) wm_1_92 rfl (fun q10 => ?_)
          refine r_iload_n hz dX3_readPrize_65 0 rfl ?_
          refine r_aload_n hz dX3_readPrize_66 1 rfl ?_
          refine r_getI (j := 7) cl3 hz dX3_readPrize_67 (by decide) wm_1_205 rfl ?_
          refine r_callSi (As := fun _ => [.int v6, .int (gI M7 p0 7)]) hz (fun _ _ h => t_X6_rankOf _ _ _ _ _ h) cal_X6_rankOf dX3_readPrize_70 wm_3_88 wm_3_89 rfl rfl (Nat.le_of_ble_eq_true rfl) ⟨(Nat.le_of_ble_eq_true rfl), (Nat.le_of_ble_eq_true rfl)⟩ ⟨(Nat.le_of_ble_eq_true rfl), (Nat.le_of_ble_eq_true rfl)⟩ (fun v12 M11 => ?_)
          refine r_sipush (v := 9999) hz dX3_readPrize_73 rfl ?_
          refine r_callVi (As := fun _ => [.ref q10, .int v12, .int (9999 : Int32)]) cl3 hz (fun _ _ h => t_X3_sumOnce _ _ _ _ _ _ _ h) cal_X3_sumOnce dX3_readPrize_76 wm_3_91 wm_3_93 wm_p_19 rfl rfl (Nat.le_of_ble_eq_true rfl) ⟨(Nat.le_of_ble_eq_true rfl), (Nat.le_of_ble_eq_true rfl)⟩ ⟨(Nat.le_of_ble_eq_true rfl), (Nat.le_of_ble_eq_true rfl)⟩ (fun v14 M13 => ?_)
          refine r_ck (fun h15 => ?_)
          exact r_zret hz hq dX3_readPrize_79 h15 (Nat.le_of_ble_eq_true rfl) (Nat.le_of_ble_eq_true rfl)
        · refine r_iconst (v := 0) hz dX3_readPrize_55 rfl ?_
          exact r_zret hz hq dX3_readPrize_56 (Or.inl rfl) (Nat.le_of_ble_eq_true rfl) (Nat.le_of_ble_eq_true rfl)
    · refine r_aload_n hz dX3_readPrize_12 0 rfl ?_
      refine r_iconst (v := 5) hz dX3_readPrize_13 rfl ?_
      refine r_callVi (As := fun _ => [.int (5 : Int32)]) cl3 hz (fun _ _ h => t_X3_refuse _ _ _ _ _ h) cal_X3_refuse dX3_readPrize_14 wm_2_235 wm_2_237 wm_p_4 rfl rfl (Nat.le_of_ble_eq_true rfl) ⟨(Nat.le_of_ble_eq_true rfl), (Nat.le_of_ble_eq_true rfl)⟩ ⟨(Nat.le_of_ble_eq_true rfl), (Nat.le_of_ble_eq_true rfl)⟩ (fun v17 M16 => ?_)
      refine r_ck (fun h18 => ?_)
      exact r_zret hz hq dX3_readPrize_17 h18 (Nat.le_of_ble_eq_true rfl) (Nat.le_of_ble_eq_true rfl)
  exact key x M' h ⟨rfl, rfl⟩
theorem dX7_cellOf_0 : decode cX7_cellOf 0 = .ok (.iload_n 0, 1) := by decide +kernel
theorem dX7_cellOf_1 : decode cX7_cellOf 1 = .ok (.bipush 21, 2) := by decide +kernel
theorem dX7_cellOf_3 : decode cX7_cellOf 3 = .ok (.imul, 1) := by decide +kernel
theorem dX7_cellOf_4 : decode cX7_cellOf 4 = .ok (.iload_n 1, 1) := by decide +kernel
theorem dX7_cellOf_5 : decode cX7_cellOf 5 = .ok (.iadd, 1) := by decide +kernel
theorem dX7_cellOf_6 : decode cX7_cellOf 6 = .ok (.ireturn, 1) := by decide +kernel
abbrev rX7_cellOf : Room := { frames := 0, cells := 0, slots := 0, locals := 0 }
theorem cal_X7_cellOf : CalOk yX7_cellOf cX7_cellOf 2 (some .int) 2 := ⟨wm_3_101, wm_1_1, by decide, by decide, by decide +kernel⟩
def f_X7_cellOf (p0 : Int32) (p1 : Int32) (M : Mm) : Option (Int32 × Mm) :=
  some (((p0 * (21 : Int32)) + p1), M)
set_option maxRecDepth 20000 in
set_option maxHeartbeats 4000000 in
theorem t_X7_cellOf (p0 : Int32) (p1 : Int32) (M : Mm) (x : Int32) (M' : Mm) (h : f_X7_cellOf p0 p1 M = some (x, M')) : Ctr yX7_cellOf cX7_cellOf 2 (some .int) rX7_cellOf (fun _ => [.int p0, .int p1]) M (zI x) M' := by
  refine ctr_of (plainFor_of_name (by decide)) (fun _ => Nat.le_of_ble_eq_true rfl) (fun z hz hin hq => ?_)
  have key : Sim z 0 [(0, .int p0), (1, .int p1)] [] M 0 0 (f_X7_cellOf p0 p1 M) (fun a b => a = x ∧ b = M') := by
    have hq : Ret z zI (fun a b => a = x ∧ b = M') := fun a b e => by rw [e.1, e.2]; exact hq
    unfold f_X7_cellOf
    refine r_iload_n hz dX7_cellOf_0 0 rfl ?_
    refine r_bipush (v := 21) hz dX7_cellOf_1 rfl ?_
    refine r_imul hz dX7_cellOf_3 ?_
    refine r_iload_n hz dX7_cellOf_4 1 rfl ?_
    refine r_iadd hz dX7_cellOf_5 ?_
    exact r_iret hz hq dX7_cellOf_6 (Nat.le_of_ble_eq_true rfl) (Nat.le_of_ble_eq_true rfl)
  exact key x M' h ⟨rfl, rfl⟩
theorem dX3_readPrice_0 : decode cX3_readPrice 0 = .ok (.aload_n 0, 1) := by decide +kernel
theorem dX3_readPrice_1 : decode cX3_readPrice 1 = .ok (.getfield 25, 3) := by decide +kernel
theorem dX3_readPrice_4 : decode cX3_readPrice 4 = .ok (.getfield 192, 3) := by decide +kernel
theorem dX3_readPrice_7 : decode cX3_readPrice 7 = .ok (.bipush 24, 2) := by decide +kernel
theorem dX3_readPrice_9 : decode cX3_readPrice 9 = .ok (.if_icmp .lt 9, 3) := by decide +kernel
theorem dX3_readPrice_12 : decode cX3_readPrice 12 = .ok (.aload_n 0, 1) := by decide +kernel
theorem dX3_readPrice_13 : decode cX3_readPrice 13 = .ok (.iconst 5, 1) := by decide +kernel
theorem dX3_readPrice_14 : decode cX3_readPrice 14 = .ok (.invokevirtual 86, 3) := by decide +kernel
theorem dX3_readPrice_17 : decode cX3_readPrice 17 = .ok (.ireturn, 1) := by decide +kernel
theorem dX3_readPrice_18 : decode cX3_readPrice 18 = .ok (.aload_n 0, 1) := by decide +kernel
theorem dX3_readPrice_19 : decode cX3_readPrice 19 = .ok (.getfield 25, 3) := by decide +kernel
theorem dX3_readPrice_22 : decode cX3_readPrice 22 = .ok (.dup, 1) := by decide +kernel
theorem dX3_readPrice_23 : decode cX3_readPrice 23 = .ok (.getfield 192, 3) := by decide +kernel
theorem dX3_readPrice_26 : decode cX3_readPrice 26 = .ok (.iconst 1, 1) := by decide +kernel
theorem dX3_readPrice_27 : decode cX3_readPrice 27 = .ok (.iadd, 1) := by decide +kernel
theorem dX3_readPrice_28 : decode cX3_readPrice 28 = .ok (.putfield 192, 3) := by decide +kernel
theorem dX3_readPrice_31 : decode cX3_readPrice 31 = .ok (.aload_n 0, 1) := by decide +kernel
theorem dX3_readPrice_32 : decode cX3_readPrice 32 = .ok (.invokevirtual 53, 3) := by decide +kernel
theorem dX3_readPrice_35 : decode cX3_readPrice 35 = .ok (.aload_n 0, 1) := by decide +kernel
theorem dX3_readPrice_36 : decode cX3_readPrice 36 = .ok (.invokevirtual 165, 3) := by decide +kernel
theorem dX3_readPrice_39 : decode cX3_readPrice 39 = .ok (.istore_n 1, 1) := by decide +kernel
theorem dX3_readPrice_40 : decode cX3_readPrice 40 = .ok (.iload_n 1, 1) := by decide +kernel
theorem dX3_readPrice_41 : decode cX3_readPrice 41 = .ok (.iconst (-1), 1) := by decide +kernel
theorem dX3_readPrice_42 : decode cX3_readPrice 42 = .ok (.if_icmp .eq 20, 3) := by decide +kernel
theorem dX3_readPrice_45 : decode cX3_readPrice 45 = .ok (.aload_n 0, 1) := by decide +kernel
theorem dX3_readPrice_46 : decode cX3_readPrice 46 = .ok (.iconst 1, 1) := by decide +kernel
theorem dX3_readPrice_47 : decode cX3_readPrice 47 = .ok (.aload_n 0, 1) := by decide +kernel
theorem dX3_readPrice_48 : decode cX3_readPrice 48 = .ok (.getfield 25, 3) := by decide +kernel
theorem dX3_readPrice_51 : decode cX3_readPrice 51 = .ok (.getfield 121, 3) := by decide +kernel
theorem dX3_readPrice_54 : decode cX3_readPrice 54 = .ok (.iload_n 1, 1) := by decide +kernel
theorem dX3_readPrice_55 : decode cX3_readPrice 55 = .ok (.iaload, 1) := by decide +kernel
theorem dX3_readPrice_56 : decode cX3_readPrice 56 = .ok (.invokevirtual 168, 3) := by decide +kernel
theorem dX3_readPrice_59 : decode cX3_readPrice 59 = .ok (.ifCond .ne 5, 3) := by decide +kernel
theorem dX3_readPrice_62 : decode cX3_readPrice 62 = .ok (.iconst 0, 1) := by decide +kernel
theorem dX3_readPrice_63 : decode cX3_readPrice 63 = .ok (.ireturn, 1) := by decide +kernel
theorem dX3_readPrice_64 : decode cX3_readPrice 64 = .ok (.aload_n 0, 1) := by decide +kernel
theorem dX3_readPrice_65 : decode cX3_readPrice 65 = .ok (.aload_n 0, 1) := by decide +kernel
theorem dX3_readPrice_66 : decode cX3_readPrice 66 = .ok (.getfield 25, 3) := by decide +kernel
theorem dX3_readPrice_69 : decode cX3_readPrice 69 = .ok (.getfield 195, 3) := by decide +kernel
theorem dX3_readPrice_72 : decode cX3_readPrice 72 = .ok (.iload_n 1, 1) := by decide +kernel
theorem dX3_readPrice_73 : decode cX3_readPrice 73 = .ok (.aload_n 0, 1) := by decide +kernel
theorem dX3_readPrice_74 : decode cX3_readPrice 74 = .ok (.getfield 38, 3) := by decide +kernel
theorem dX3_readPrice_77 : decode cX3_readPrice 77 = .ok (.invokestatic 197, 3) := by decide +kernel
theorem dX3_readPrice_80 : decode cX3_readPrice 80 = .ok (.sipush 999, 3) := by decide +kernel
theorem dX3_readPrice_83 : decode cX3_readPrice 83 = .ok (.invokevirtual 188, 3) := by decide +kernel
theorem dX3_readPrice_86 : decode cX3_readPrice 86 = .ok (.ireturn, 1) := by decide +kernel
abbrev rX3_readPrice : Room := { frames := 10, cells := 0, slots := 0, locals := 234 }
theorem cal_X3_readPrice : CalOk yX3_readPrice cX3_readPrice 2 (some .boolean) 0 := ⟨wm_3_98, wm_1_4, by decide, by decide, by decide +kernel⟩
def f_X3_readPrice (p0 : Nat) (M : Mm) : Option (Int32 × Mm) :=
  ck (gK M p0 = 3) (bR (gR M p0 3) fun q1 => ck (gK M q1 = 6) ((if (gI M q1 4) < (24 : Int32) then
    ck (gK M p0 = 3) (bR (gR M p0 3) fun q2 => ck (gK M q2 = 6) (ck (gK M q2 = 6) (nm (sI M q2 4 ((gI M q2 4) + (1 : Int32))) fun M3 =>
    ck (gK M3 p0 = 3) (bd (f_X3_advance p0 M3) fun _ M4 =>
    ck (gK M4 p0 = 3) (bd (f_X3_knownLoan p0 M4) fun v6 M5 =>
    (if v6 = (-1 : Int32) then
      some ((0 : Int32), M5)
    else
      ck (gK M5 p0 = 3) (bR (gR M5 p0 3) fun q7 => ck (gK M5 q7 = 6) (bR (gR M5 q7 9) fun q8 => ck (gK M5 q8 = 10 ∧ inb v6 (gN M5 q8)) (ck (gK M5 p0 = 3) (bd (f_X3_fits p0 (1 : Int32) (gI M5 q8 (v6).toNatClampNeg) M5) fun v10 M9 =>
      (if ¬ v10 = 0 then
        ck (gK M9 p0 = 3) (bR (gR M9 p0 3) fun q11 => ck (gK M9 q11 = 6) (bR (gR M9 q11 17) fun q12 => ck (gK M9 p0 = 3) (bd (f_X7_cellOf v6 (gI M9 p0 7) M9) fun v14 M13 =>
        ck (gK M13 p0 = 3) (bd (f_X3_sumOnce p0 q12 v14 (999 : Int32) M13) fun v16 M15 =>
        ck (v16 = 0 ∨ v16 = 1) (some (v16, M15))))))
      else
        some ((0 : Int32), M9))))))))))))
  else
    ck (gK M p0 = 3) (bd (f_X3_refuse p0 (5 : Int32) M) fun v19 M18 =>
    ck (v19 = 0 ∨ v19 = 1) (some (v19, M18))))))
set_option maxRecDepth 20000 in
set_option maxHeartbeats 4000000 in
theorem t_X3_readPrice (p0 : Nat) (M : Mm) (x : Int32) (M' : Mm) (h : f_X3_readPrice p0 M = some (x, M')) : Ctr yX3_readPrice cX3_readPrice 2 (some .boolean) rX3_readPrice (fun _ => [.ref p0]) M (zI x) M' := by
  refine ctr_of (plainFor_of_name (by decide)) (fun _ => Nat.le_of_ble_eq_true rfl) (fun z hz hin hq => ?_)
  have key : Sim z 0 [(0, .ref p0)] [] M 0 0 (f_X3_readPrice p0 M) (fun a b => a = x ∧ b = M') := by
    have hq : Ret z zI (fun a b => a = x ∧ b = M') := fun a b e => by rw [e.1, e.2]; exact hq
    unfold f_X3_readPrice
    refine r_aload_n hz dX3_readPrice_0 0 rfl ?_
    refine r_getR (j := 3) cl3 hz dX3_readPrice_1 (by decide) wm_1_201 rfl (fun q1 => ?_)
    refine r_getI (j := 4) cl6 hz dX3_readPrice_4 (by decide) wm_1_48 rfl ?_
    refine r_bipush (v := 24) hz dX3_readPrice_7 rfl ?_
    refine r_icmp_lt (tgt := 18) hz dX3_readPrice_9 rfl ?_ ?_
    · refine r_aload_n hz dX3_readPrice_18 0 rfl ?_
      refine r_getR (j := 3) cl3 hz dX3_readPrice_19 (by decide) wm_1_201 rfl (fun q2 => ?_)
      refine r_dup hz dX3_readPrice_22 rfl ?_
      refine r_getI (j := 4) cl6 hz dX3_readPrice_23 (by decide) wm_1_48 rfl ?_
      refine r_iconst (v := 1) hz dX3_readPrice_26 rfl ?_
      refine r_iadd hz dX3_readPrice_27 ?_
      refine r_putI (j := 4) cl6 hz dX3_readPrice_28 (by decide) wm_1_48 (Or.inl rfl) rfl rfl rfl ?_
      refine r_nmM (fun M3 => ?_)
      refine r_aload_n hz dX3_readPrice_31 0 rfl ?_
      refine r_callVv (As := fun _ => []) cl3 hz (fun _ _ h => t_X3_advance _ _ _ _ h) cal_X3_advance dX3_readPrice_32 wm_2_167 wm_2_169 wm_p_0 rfl rfl (Nat.le_of_ble_eq_true rfl) ⟨(Nat.le_of_ble_eq_true rfl), (Nat.le_of_ble_eq_true rfl)⟩ ⟨(Nat.le_of_ble_eq_true rfl), (Nat.le_of_ble_eq_true rfl)⟩ (fun _ M4 => ?_)
      refine r_aload_n hz dX3_readPrice_35 0 rfl ?_
      refine r_callVi (As := fun _ => []) cl3 hz (fun _ _ h => t_X3_knownLoan _ _ _ _ h) cal_X3_knownLoan dX3_readPrice_36 wm_3_69 wm_3_71 wm_p_17 rfl rfl (Nat.le_of_ble_eq_true rfl) ⟨(Nat.le_of_ble_eq_true rfl), (Nat.le_of_ble_eq_true rfl)⟩ ⟨(Nat.le_of_ble_eq_true rfl), (Nat.le_of_ble_eq_true rfl)⟩ (fun v6 M5 => ?_)
      refine r_istore_n (lv' := [(1, .int v6), (0, .ref p0)]) hz dX3_readPrice_39 (by decide) rfl ?_
      refine r_iload_n hz dX3_readPrice_40 0 rfl ?_
      refine r_iconst (v := -1) hz dX3_readPrice_41 rfl ?_
      refine r_icmp_eq (tgt := 62) hz dX3_readPrice_42 rfl ?_ ?_
      · refine r_iconst (v := 0) hz dX3_readPrice_62 rfl ?_
        exact r_zret hz hq dX3_readPrice_63 (Or.inl rfl) (Nat.le_of_ble_eq_true rfl) (Nat.le_of_ble_eq_true rfl)
      · refine r_aload_n hz dX3_readPrice_45 1 rfl ?_
        refine r_iconst (v := 1) hz dX3_readPrice_46 rfl ?_
        refine r_aload_n hz dX3_readPrice_47 1 rfl ?_
        refine r_getR (j := 3) cl3 hz dX3_readPrice_48 (by decide) wm_1_201 rfl (fun q7 => ?_)
        refine r_getR (j := 9) cl6 hz dX3_readPrice_51 (by decide) wm_1_70 rfl (fun q8 => ?_)
        refine r_iload_n hz dX3_readPrice_54 0 rfl ?_
        refine r_iald hz dX3_readPrice_55 ?_
        refine r_callVi (As := fun _ => [.int (1 : Int32), .int (gI M5 q8 (v6).toNatClampNeg)]) cl3 hz (fun _ _ h => t_X3_fits _ _ _ _ _ _ h) cal_X3_fits dX3_readPrice_56 wm_3_36 wm_3_38 wm_p_9 rfl rfl (Nat.le_of_ble_eq_true rfl) ⟨(Nat.le_of_ble_eq_true rfl), (Nat.le_of_ble_eq_true rfl)⟩ ⟨(Nat.le_of_ble_eq_true rfl), (Nat.le_of_ble_eq_true rfl)⟩ (fun v10 M9 => ?_)
        refine r_if_ne (tgt := 64) hz dX3_readPrice_59 rfl ?_ ?_
        · refine r_aload_n hz dX3_readPrice_64 1 rfl ?_
          refine r_aload_n hz dX3_readPrice_65 1 rfl ?_
          refine r_getR (j := 3) cl3 hz dX3_readPrice_66 (by decide) wm_1_201 rfl (fun q11 => ?_)
          refine r_getR (j := 17) cl6 hz dX3_readPrice_69 (by decide) wm_1_95 rfl (fun q12 => ?_)
          refine r_iload_n hz dX3_readPrice_72 0 rfl ?_
          refine r_aload_n hz dX3_readPrice_73 1 rfl ?_
          refine r_getI (j := 7) cl3 hz dX3_readPrice_74 (by decide) wm_1_205 rfl ?_
          refine r_callSNi (As := fun _ => [.int v6, .int (gI M9 p0 7)]) (host := "DrawnBonds") hz (fun _ _ h => t_X7_cellOf _ _ _ _ _ h) cal_X7_cellOf dX3_readPrice_77 (List.mem_of_getElem? (i := 9) rfl) wm_3_100 rfl rfl (Nat.le_of_ble_eq_true rfl) ⟨(Nat.le_of_ble_eq_true rfl), (Nat.le_of_ble_eq_true rfl)⟩ ⟨(Nat.le_of_ble_eq_true rfl), (Nat.le_of_ble_eq_true rfl)⟩ (fun v14 M13 => ?_)
          refine r_sipush (v := 999) hz dX3_readPrice_80 rfl ?_
          refine r_callVi (As := fun _ => [.ref q12, .int v14, .int (999 : Int32)]) cl3 hz (fun _ _ h => t_X3_sumOnce _ _ _ _ _ _ _ h) cal_X3_sumOnce dX3_readPrice_83 wm_3_91 wm_3_93 wm_p_19 rfl rfl (Nat.le_of_ble_eq_true rfl) ⟨(Nat.le_of_ble_eq_true rfl), (Nat.le_of_ble_eq_true rfl)⟩ ⟨(Nat.le_of_ble_eq_true rfl), (Nat.le_of_ble_eq_true rfl)⟩ (fun v16 M15 => ?_)
          refine r_ck (fun h17 => ?_)
          exact r_zret hz hq dX3_readPrice_86 h17 (Nat.le_of_ble_eq_true rfl) (Nat.le_of_ble_eq_true rfl)
        · refine r_iconst (v := 0) hz dX3_readPrice_62 rfl ?_
          exact r_zret hz hq dX3_readPrice_63 (Or.inl rfl) (Nat.le_of_ble_eq_true rfl) (Nat.le_of_ble_eq_true rfl)
    · refine r_aload_n hz dX3_readPrice_12 0 rfl ?_
      refine r_iconst (v := 5) hz dX3_readPrice_13 rfl ?_
      refine r_callVi (As := fun _ => [.int (5 : Int32)]) cl3 hz (fun _ _ h => t_X3_refuse _ _ _ _ _ h) cal_X3_refuse dX3_readPrice_14 wm_2_235 wm_2_237 wm_p_4 rfl rfl (Nat.le_of_ble_eq_true rfl) ⟨(Nat.le_of_ble_eq_true rfl), (Nat.le_of_ble_eq_true rfl)⟩ ⟨(Nat.le_of_ble_eq_true rfl), (Nat.le_of_ble_eq_true rfl)⟩ (fun v19 M18 => ?_)
      refine r_ck (fun h20 => ?_)
      exact r_zret hz hq dX3_readPrice_17 h20 (Nat.le_of_ble_eq_true rfl) (Nat.le_of_ble_eq_true rfl)
  exact key x M' h ⟨rfl, rfl⟩
