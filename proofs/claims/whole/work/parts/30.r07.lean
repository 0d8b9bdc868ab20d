theorem dX8_lotMany_0 : decode cX8_lotMany 0 = .ok (.iconst 0, 1) := by decide +kernel
theorem dX8_lotMany_1 : decode cX8_lotMany 1 = .ok (.istore_n 3, 1) := by decide +kernel
theorem dX8_lotMany_2 : decode cX8_lotMany 2 = .ok (.iconst 1, 1) := by decide +kernel
theorem dX8_lotMany_3 : decode cX8_lotMany 3 = .ok (.istore 4, 2) := by decide +kernel
theorem dX8_lotMany_5 : decode cX8_lotMany 5 = .ok (.iload 4, 2) := by decide +kernel
theorem dX8_lotMany_7 : decode cX8_lotMany 7 = .ok (.aload_n 0, 1) := by decide +kernel
theorem dX8_lotMany_8 : decode cX8_lotMany 8 = .ok (.iload_n 1, 1) := by decide +kernel
theorem dX8_lotMany_9 : decode cX8_lotMany 9 = .ok (.iconst 0, 1) := by decide +kernel
theorem dX8_lotMany_10 : decode cX8_lotMany 10 = .ok (.invokevirtual 225, 3) := by decide +kernel
theorem dX8_lotMany_13 : decode cX8_lotMany 13 = .ok (.if_icmp .gt 36, 3) := by decide +kernel
theorem dX8_lotMany_16 : decode cX8_lotMany 16 = .ok (.iload_n 3, 1) := by decide +kernel
theorem dX8_lotMany_17 : decode cX8_lotMany 17 = .ok (.aload_n 0, 1) := by decide +kernel
theorem dX8_lotMany_18 : decode cX8_lotMany 18 = .ok (.getfield 20, 3) := by decide +kernel
theorem dX8_lotMany_21 : decode cX8_lotMany 21 = .ok (.sipush 480, 3) := by decide +kernel
theorem dX8_lotMany_24 : decode cX8_lotMany 24 = .ok (.iload_n 1, 1) := by decide +kernel
theorem dX8_lotMany_25 : decode cX8_lotMany 25 = .ok (.iload 4, 2) := by decide +kernel
theorem dX8_lotMany_27 : decode cX8_lotMany 27 = .ok (.invokestatic 229, 3) := by decide +kernel
theorem dX8_lotMany_30 : decode cX8_lotMany 30 = .ok (.iadd, 1) := by decide +kernel
theorem dX8_lotMany_31 : decode cX8_lotMany 31 = .ok (.iaload, 1) := by decide +kernel
theorem dX8_lotMany_32 : decode cX8_lotMany 32 = .ok (.iload_n 2, 1) := by decide +kernel
theorem dX8_lotMany_33 : decode cX8_lotMany 33 = .ok (.if_icmp .ne 7, 3) := by decide +kernel
theorem dX8_lotMany_36 : decode cX8_lotMany 36 = .ok (.iconst 1, 1) := by decide +kernel
theorem dX8_lotMany_37 : decode cX8_lotMany 37 = .ok (.goto 4, 3) := by decide +kernel
theorem dX8_lotMany_40 : decode cX8_lotMany 40 = .ok (.iconst 0, 1) := by decide +kernel
theorem dX8_lotMany_41 : decode cX8_lotMany 41 = .ok (.iadd, 1) := by decide +kernel
theorem dX8_lotMany_42 : decode cX8_lotMany 42 = .ok (.istore_n 3, 1) := by decide +kernel
theorem dX8_lotMany_43 : decode cX8_lotMany 43 = .ok (.iinc 4 1, 3) := by decide +kernel
theorem dX8_lotMany_46 : decode cX8_lotMany 46 = .ok (.goto (-41), 3) := by decide +kernel
theorem dX8_lotMany_49 : decode cX8_lotMany 49 = .ok (.iload_n 3, 1) := by decide +kernel
theorem dX8_lotMany_50 : decode cX8_lotMany 50 = .ok (.ireturn, 1) := by decide +kernel
abbrev rX8_lotMany : Room := { frames := 1, cells := 0, slots := 0, locals := 22 }
theorem cal_X8_lotMany : CalOk yX8_lotMany cX8_lotMany 5 (some .int) 2 := ⟨wm_7_70, wm_1_9, by decide, by decide, by decide +kernel⟩
def f_X8_lotMany_5 : Nat → Nat → Int32 → Int32 → Int32 → Int32 → Mm → Option (Int32 × Mm)
  | 0, _, _, _, _, _, _ => none
  | n + 1, x0, x1, x2, x3, x4, M =>
    ck (gK M x0 = 8) (bd (f_X8_loanOf x0 x1 (0 : Int32) M) fun v2 M1 =>
    (if v2 < x4 then
      some (x3, M1)
    else
      ck (gK M1 x0 = 8) (bR (gR M1 x0 17) fun q3 => bd (f_X8_bondAt x1 x4 M1) fun v5 M4 =>
      ck (gK M4 q3 = 10 ∧ inb ((480 : Int32) + v5) (gN M4 q3)) ((if ¬ (gI M4 q3 (((480 : Int32) + v5)).toNatClampNeg) = x2 then
        nm (x3 + (0 : Int32)) fun v6 =>
        f_X8_lotMany_5 n x0 x1 x2 v6 (x4 + (1 : Int32)) M4
      else
        nm (x3 + (1 : Int32)) fun v8 =>
        f_X8_lotMany_5 n x0 x1 x2 v8 (x4 + (1 : Int32)) M4)))))
set_option maxRecDepth 20000 in
set_option maxHeartbeats 4000000 in
theorem s_X8_lotMany_5 {z : Zt} {K : Int32 → Mm → Prop} (hz : Good z RX8 cX8_lotMany 5 rX8_lotMany (some .int)) (hq : Ret z zI K) : ∀ (n : Nat) (x0 : Nat) (x1 : Int32) (x2 : Int32) (x3 : Int32) (x4 : Int32) (M : Mm), Sim z 5 [(0, .ref x0), (1, .int x1), (2, .int x2), (3, .int x3), (4, .int x4)] [] M 0 0 (f_X8_lotMany_5 n x0 x1 x2 x3 x4 M) K := by
  intro n
  induction n with
  | zero => exact fun _ _ _ _ _ _ => r_none
  | succ n ih =>
    intro x0 x1 x2 x3 x4 M
    unfold f_X8_lotMany_5
    refine r_iload hz dX8_lotMany_5 4 rfl ?_
    refine r_aload_n hz dX8_lotMany_7 0 rfl ?_
    refine r_iload_n hz dX8_lotMany_8 1 rfl ?_
    refine r_iconst (v := 0) hz dX8_lotMany_9 rfl ?_
    refine r_callVi (As := fun _ => [.int x1, .int (0 : Int32)]) cl8 hz (fun _ _ h => t_X8_loanOf _ _ _ _ _ _ h) cal_X8_loanOf dX8_lotMany_10 wm_6_68 wm_6_70 wm_p_66 rfl rfl (Nat.le_of_ble_eq_true rfl) ⟨(Nat.le_of_ble_eq_true rfl), (Nat.le_of_ble_eq_true rfl)⟩ ⟨(Nat.le_of_ble_eq_true rfl), (Nat.le_of_ble_eq_true rfl)⟩ (fun v2 M1 => ?_)
    refine r_icmp_gt (tgt := 49) hz dX8_lotMany_13 rfl ?_ ?_
    · refine r_iload_n hz dX8_lotMany_49 3 rfl ?_
      exact r_iret hz hq dX8_lotMany_50 (Nat.le_of_ble_eq_true rfl) (Nat.le_of_ble_eq_true rfl)
    · refine r_iload_n hz dX8_lotMany_16 3 rfl ?_
      refine r_aload_n hz dX8_lotMany_17 0 rfl ?_
      refine r_getR (j := 17) cl8 hz dX8_lotMany_18 (by decide) wm_5_73 rfl (fun q3 => ?_)
      refine r_sipush (v := 480) hz dX8_lotMany_21 rfl ?_
      refine r_iload_n hz dX8_lotMany_24 1 rfl ?_
      refine r_iload hz dX8_lotMany_25 4 rfl ?_
      refine r_callSi (As := fun _ => [.int x1, .int x4]) hz (fun _ _ h => t_X8_bondAt _ _ _ _ _ h) cal_X8_bondAt dX8_lotMany_27 wm_6_72 wm_6_73 rfl rfl (Nat.le_of_ble_eq_true rfl) ⟨(Nat.le_of_ble_eq_true rfl), (Nat.le_of_ble_eq_true rfl)⟩ ⟨(Nat.le_of_ble_eq_true rfl), (Nat.le_of_ble_eq_true rfl)⟩ (fun v5 M4 => ?_)
      refine r_iadd hz dX8_lotMany_30 ?_
      refine r_iald hz dX8_lotMany_31 ?_
      refine r_iload_n hz dX8_lotMany_32 2 rfl ?_
      refine r_icmp_ne (tgt := 40) hz dX8_lotMany_33 rfl ?_ ?_
      · refine r_iconst (v := 0) hz dX8_lotMany_40 rfl ?_
        refine r_iadd hz dX8_lotMany_41 ?_
        refine r_nmi (fun v6 => ?_)
        refine r_istore_n (lv' := [(3, .int v6), (0, .ref x0), (1, .int x1), (2, .int x2), (4, .int x4)]) hz dX8_lotMany_42 (by decide) rfl ?_
        refine r_iinc (v := (x4 + (1 : Int32))) (lv' := [(4, .int (x4 + (1 : Int32))), (3, .int v6), (0, .ref x0), (1, .int x1), (2, .int x2)]) hz dX8_lotMany_43 4 rfl rfl (by decide) rfl ?_
        refine r_goto (tgt := 5) hz dX8_lotMany_46 rfl ?_
        refine r_sub [2, 3, 4, 1, 0] rfl ?_
        exact ih x0 x1 x2 v6 (x4 + (1 : Int32)) M4
      · refine r_iconst (v := 1) hz dX8_lotMany_36 rfl ?_
        refine r_goto (tgt := 41) hz dX8_lotMany_37 rfl ?_
        refine r_iadd hz dX8_lotMany_41 ?_
        refine r_nmi (fun v8 => ?_)
        refine r_istore_n (lv' := [(3, .int v8), (0, .ref x0), (1, .int x1), (2, .int x2), (4, .int x4)]) hz dX8_lotMany_42 (by decide) rfl ?_
        refine r_iinc (v := (x4 + (1 : Int32))) (lv' := [(4, .int (x4 + (1 : Int32))), (3, .int v8), (0, .ref x0), (1, .int x1), (2, .int x2)]) hz dX8_lotMany_43 4 rfl rfl (by decide) rfl ?_
        refine r_goto (tgt := 5) hz dX8_lotMany_46 rfl ?_
        refine r_sub [2, 3, 4, 1, 0] rfl ?_
        exact ih x0 x1 x2 v8 (x4 + (1 : Int32)) M4
def f_X8_lotMany (p0 : Nat) (p1 : Int32) (p2 : Int32) (M : Mm) : Option (Int32 × Mm) :=
  f_X8_lotMany_5 FU p0 p1 p2 (0 : Int32) (1 : Int32) M
set_option maxRecDepth 20000 in
set_option maxHeartbeats 4000000 in
theorem t_X8_lotMany (p0 : Nat) (p1 : Int32) (p2 : Int32) (M : Mm) (x : Int32) (M' : Mm) (h : f_X8_lotMany p0 p1 p2 M = some (x, M')) : Ctr yX8_lotMany cX8_lotMany 5 (some .int) rX8_lotMany (fun _ => [.ref p0, .int p1, .int p2]) M (zI x) M' := by
  refine ctr_of (plainFor_of_name (by decide)) (fun _ => Nat.le_of_ble_eq_true rfl) (fun z hz hin hq => ?_)
  have key : Sim z 0 [(0, .ref p0), (1, .int p1), (2, .int p2)] [] M 0 0 (f_X8_lotMany p0 p1 p2 M) (fun a b => a = x ∧ b = M') := by
    have hq : Ret z zI (fun a b => a = x ∧ b = M') := fun a b e => by rw [e.1, e.2]; exact hq
    unfold f_X8_lotMany
    refine r_iconst (v := 0) hz dX8_lotMany_0 rfl ?_
    refine r_istore_n (lv' := [(3, .int (0 : Int32)), (0, .ref p0), (1, .int p1), (2, .int p2)]) hz dX8_lotMany_1 (by decide) rfl ?_
    refine r_iconst (v := 1) hz dX8_lotMany_2 rfl ?_
    refine r_istore (lv' := [(4, .int (1 : Int32)), (3, .int (0 : Int32)), (0, .ref p0), (1, .int p1), (2, .int p2)]) hz dX8_lotMany_3 (by decide) rfl ?_
    refine r_sub [2, 3, 4, 1, 0] rfl ?_
    exact s_X8_lotMany_5 hz hq FU p0 p1 p2 (0 : Int32) (1 : Int32) M
  exact key x M' h ⟨rfl, rfl⟩
theorem dX8_lot_0 : decode cX8_lot 0 = .ok (.aload_n 0, 1) := by decide +kernel
theorem dX8_lot_1 : decode cX8_lot 1 = .ok (.iconst 0, 1) := by decide +kernel
theorem dX8_lot_2 : decode cX8_lot 2 = .ok (.putfield 46, 3) := by decide +kernel
theorem dX8_lot_5 : decode cX8_lot 5 = .ok (.aload_n 0, 1) := by decide +kernel
theorem dX8_lot_6 : decode cX8_lot 6 = .ok (.iload_n 1, 1) := by decide +kernel
theorem dX8_lot_7 : decode cX8_lot 7 = .ok (.iload_n 2, 1) := by decide +kernel
theorem dX8_lot_8 : decode cX8_lot 8 = .ok (.invokevirtual 382, 3) := by decide +kernel
theorem dX8_lot_11 : decode cX8_lot 11 = .ok (.ifCond .eq 7, 3) := by decide +kernel
theorem dX8_lot_14 : decode cX8_lot 14 = .ok (.iload_n 3, 1) := by decide +kernel
theorem dX8_lot_15 : decode cX8_lot 15 = .ok (.ifCond .ge 5, 3) := by decide +kernel
theorem dX8_lot_18 : decode cX8_lot 18 = .ok (.iconst (-1), 1) := by decide +kernel
theorem dX8_lot_19 : decode cX8_lot 19 = .ok (.ireturn, 1) := by decide +kernel
theorem dX8_lot_20 : decode cX8_lot 20 = .ok (.iload_n 3, 1) := by decide +kernel
theorem dX8_lot_21 : decode cX8_lot 21 = .ok (.ifCond .ne 12, 3) := by decide +kernel
theorem dX8_lot_24 : decode cX8_lot 24 = .ok (.aload_n 0, 1) := by decide +kernel
theorem dX8_lot_25 : decode cX8_lot 25 = .ok (.iload_n 1, 1) := by decide +kernel
theorem dX8_lot_26 : decode cX8_lot 26 = .ok (.iload_n 2, 1) := by decide +kernel
theorem dX8_lot_27 : decode cX8_lot 27 = .ok (.invokevirtual 385, 3) := by decide +kernel
theorem dX8_lot_30 : decode cX8_lot 30 = .ok (.goto 10, 3) := by decide +kernel
theorem dX8_lot_33 : decode cX8_lot 33 = .ok (.aload_n 0, 1) := by decide +kernel
theorem dX8_lot_34 : decode cX8_lot 34 = .ok (.iload_n 1, 1) := by decide +kernel
theorem dX8_lot_35 : decode cX8_lot 35 = .ok (.iload_n 2, 1) := by decide +kernel
theorem dX8_lot_36 : decode cX8_lot 36 = .ok (.iload_n 3, 1) := by decide +kernel
theorem dX8_lot_37 : decode cX8_lot 37 = .ok (.invokevirtual 388, 3) := by decide +kernel
theorem dX8_lot_40 : decode cX8_lot 40 = .ok (.ireturn, 1) := by decide +kernel
abbrev rX8_lot : Room := { frames := 4, cells := 0, slots := 0, locals := 90 }
theorem cal_X8_lot : CalOk yX8_lot cX8_lot 4 (some .int) 3 := ⟨wm_7_62, wm_1_9, by decide, by decide, by decide +kernel⟩
def f_X8_lot (p0 : Nat) (p1 : Int32) (p2 : Int32) (p3 : Int32) (M : Mm) : Option (Int32 × Mm) :=
  ck (gK M p0 = 8) (nm (sI M p0 0 (0 : Int32)) fun M1 =>
  ck (gK M1 p0 = 8) (bd (f_X8_isPassed p0 p1 p2 M1) fun v3 M2 =>
  (if v3 = 0 then
    some ((-1 : Int32), M2)
  else
    (if 0 ≤ p3 then
      (if ¬ p3 = 0 then
        ck (gK M2 p0 = 8) (bd (f_X8_inLot p0 p1 p2 p3 M2) fun v5 M4 =>
        some (v5, M4))
      else
        ck (gK M2 p0 = 8) (bd (f_X8_lotMany p0 p1 p2 M2) fun v7 M6 =>
        some (v7, M6)))
    else
      some ((-1 : Int32), M2)))))
set_option maxRecDepth 20000 in
set_option maxHeartbeats 4000000 in
theorem t_X8_lot (p0 : Nat) (p1 : Int32) (p2 : Int32) (p3 : Int32) (M : Mm) (x : Int32) (M' : Mm) (h : f_X8_lot p0 p1 p2 p3 M = some (x, M')) : Ctr yX8_lot cX8_lot 4 (some .int) rX8_lot (fun _ => [.ref p0, .int p1, .int p2, .int p3]) M (zI x) M' := by
  refine ctr_of (plainFor_of_name (by decide)) (fun _ => Nat.le_of_ble_eq_true rfl) (fun z hz hin hq => ?_)
  have key : Sim z 0 [(0, .ref p0), (1, .int p1), (2, .int p2), (3, .int p3)] [] M 0 0 (f_X8_lot p0 p1 p2 p3 M) (fun a b => a = x ∧ b = M') := by
    have hq : Ret z zI (fun a b => a = x ∧ b = M') := fun a b e => by rw [e.1, e.2]; exact hq
    unfold f_X8_lot
    refine r_aload_n hz dX8_lot_0 0 rfl ?_
    refine r_iconst (v := 0) hz dX8_lot_1 rfl ?_
    refine r_putI (j := 0) cl8 hz dX8_lot_2 (by decide) wm_5_56 (Or.inl rfl) rfl rfl rfl ?_
    refine r_nmM (fun M1 => ?_)
    refine r_aload_n hz dX8_lot_5 0 rfl ?_
    refine r_iload_n hz dX8_lot_6 1 rfl ?_
    refine r_iload_n hz dX8_lot_7 2 rfl ?_
    refine r_callVi (As := fun _ => [.int p1, .int p2]) cl8 hz (fun _ _ h => t_X8_isPassed _ _ _ _ _ _ h) cal_X8_isPassed dX8_lot_8 wm_7_63 wm_7_65 wm_p_88 rfl rfl (Nat.le_of_ble_eq_true rfl) ⟨(Nat.le_of_ble_eq_true rfl), (Nat.le_of_ble_eq_true rfl)⟩ ⟨(Nat.le_of_ble_eq_true rfl), (Nat.le_of_ble_eq_true rfl)⟩ (fun v3 M2 => ?_)
    refine r_if_eq (tgt := 18) hz dX8_lot_11 rfl ?_ ?_
    · refine r_iconst (v := -1) hz dX8_lot_18 rfl ?_
      exact r_iret hz hq dX8_lot_19 (Nat.le_of_ble_eq_true rfl) (Nat.le_of_ble_eq_true rfl)
    · refine r_iload_n hz dX8_lot_14 3 rfl ?_
      refine r_if_ge (tgt := 20) hz dX8_lot_15 rfl ?_ ?_
      · refine r_iload_n hz dX8_lot_20 3 rfl ?_
        refine r_if_ne (tgt := 33) hz dX8_lot_21 rfl ?_ ?_
        · refine r_aload_n hz dX8_lot_33 0 rfl ?_
          refine r_iload_n hz dX8_lot_34 1 rfl ?_
          refine r_iload_n hz dX8_lot_35 2 rfl ?_
          refine r_iload_n hz dX8_lot_36 3 rfl ?_
          refine r_callVi (As := fun _ => [.int p1, .int p2, .int p3]) cl8 hz (fun _ _ h => t_X8_inLot _ _ _ _ _ _ _ h) cal_X8_inLot dX8_lot_37 wm_7_71 wm_7_73 wm_p_90 rfl rfl (Nat.le_of_ble_eq_true rfl) ⟨(Nat.le_of_ble_eq_true rfl), (Nat.le_of_ble_eq_true rfl)⟩ ⟨(Nat.le_of_ble_eq_true rfl), (Nat.le_of_ble_eq_true rfl)⟩ (fun v5 M4 => ?_)
          exact r_iret hz hq dX8_lot_40 (Nat.le_of_ble_eq_true rfl) (Nat.le_of_ble_eq_true rfl)
        · refine r_aload_n hz dX8_lot_24 0 rfl ?_
          refine r_iload_n hz dX8_lot_25 1 rfl ?_
          refine r_iload_n hz dX8_lot_26 2 rfl ?_
          refine r_callVi (As := fun _ => [.int p1, .int p2]) cl8 hz (fun _ _ h => t_X8_lotMany _ _ _ _ _ _ h) cal_X8_lotMany dX8_lot_27 wm_7_67 wm_7_69 wm_p_89 rfl rfl (Nat.le_of_ble_eq_true rfl) ⟨(Nat.le_of_ble_eq_true rfl), (Nat.le_of_ble_eq_true rfl)⟩ ⟨(Nat.le_of_ble_eq_true rfl), (Nat.le_of_ble_eq_true rfl)⟩ (fun v7 M6 => ?_)
          refine r_goto (tgt := 40) hz dX8_lot_30 rfl ?_
          exact r_iret hz hq dX8_lot_40 (Nat.le_of_ble_eq_true rfl) (Nat.le_of_ble_eq_true rfl)
      · refine r_iconst (v := -1) hz dX8_lot_18 rfl ?_
        exact r_iret hz hq dX8_lot_19 (Nat.le_of_ble_eq_true rfl) (Nat.le_of_ble_eq_true rfl)
  exact key x M' h ⟨rfl, rfl⟩
theorem dX8_lastOne_0 : decode cX8_lastOne 0 = .ok (.aload_n 0, 1) := by decide +kernel
theorem dX8_lastOne_1 : decode cX8_lastOne 1 = .ok (.iconst 0, 1) := by decide +kernel
theorem dX8_lastOne_2 : decode cX8_lastOne 2 = .ok (.putfield 46, 3) := by decide +kernel
theorem dX8_lastOne_5 : decode cX8_lastOne 5 = .ok (.aload_n 0, 1) := by decide +kernel
theorem dX8_lastOne_6 : decode cX8_lastOne 6 = .ok (.iload_n 1, 1) := by decide +kernel
theorem dX8_lastOne_7 : decode cX8_lastOne 7 = .ok (.invokevirtual 222, 3) := by decide +kernel
theorem dX8_lastOne_10 : decode cX8_lastOne 10 = .ok (.ifCond .eq 20, 3) := by decide +kernel
theorem dX8_lastOne_13 : decode cX8_lastOne 13 = .ok (.aload_n 0, 1) := by decide +kernel
theorem dX8_lastOne_14 : decode cX8_lastOne 14 = .ok (.getfield 20, 3) := by decide +kernel
theorem dX8_lastOne_17 : decode cX8_lastOne 17 = .ok (.sipush 1206, 3) := by decide +kernel
theorem dX8_lastOne_20 : decode cX8_lastOne 20 = .ok (.iaload, 1) := by decide +kernel
theorem dX8_lastOne_21 : decode cX8_lastOne 21 = .ok (.aload_n 0, 1) := by decide +kernel
theorem dX8_lastOne_22 : decode cX8_lastOne 22 = .ok (.iload_n 1, 1) := by decide +kernel
theorem dX8_lastOne_23 : decode cX8_lastOne 23 = .ok (.iconst 3, 1) := by decide +kernel
theorem dX8_lastOne_24 : decode cX8_lastOne 24 = .ok (.invokevirtual 225, 3) := by decide +kernel
theorem dX8_lastOne_27 : decode cX8_lastOne 27 = .ok (.if_icmp .ge 5, 3) := by decide +kernel
theorem dX8_lastOne_30 : decode cX8_lastOne 30 = .ok (.iconst (-1), 1) := by decide +kernel
theorem dX8_lastOne_31 : decode cX8_lastOne 31 = .ok (.ireturn, 1) := by decide +kernel
theorem dX8_lastOne_32 : decode cX8_lastOne 32 = .ok (.iconst 0, 1) := by decide +kernel
theorem dX8_lastOne_33 : decode cX8_lastOne 33 = .ok (.istore_n 3, 1) := by decide +kernel
theorem dX8_lastOne_34 : decode cX8_lastOne 34 = .ok (.iconst 1, 1) := by decide +kernel
theorem dX8_lastOne_35 : decode cX8_lastOne 35 = .ok (.istore 4, 2) := by decide +kernel
theorem dX8_lastOne_37 : decode cX8_lastOne 37 = .ok (.iload 4, 2) := by decide +kernel
theorem dX8_lastOne_39 : decode cX8_lastOne 39 = .ok (.aload_n 0, 1) := by decide +kernel
theorem dX8_lastOne_40 : decode cX8_lastOne 40 = .ok (.iload_n 1, 1) := by decide +kernel
theorem dX8_lastOne_41 : decode cX8_lastOne 41 = .ok (.iconst 0, 1) := by decide +kernel
theorem dX8_lastOne_42 : decode cX8_lastOne 42 = .ok (.invokevirtual 225, 3) := by decide +kernel
theorem dX8_lastOne_45 : decode cX8_lastOne 45 = .ok (.if_icmp .gt 44, 3) := by decide +kernel
theorem dX8_lastOne_48 : decode cX8_lastOne 48 = .ok (.aload_n 0, 1) := by decide +kernel
theorem dX8_lastOne_49 : decode cX8_lastOne 49 = .ok (.getfield 20, 3) := by decide +kernel
theorem dX8_lastOne_52 : decode cX8_lastOne 52 = .ok (.sipush 480, 3) := by decide +kernel
theorem dX8_lastOne_55 : decode cX8_lastOne 55 = .ok (.iload_n 1, 1) := by decide +kernel
theorem dX8_lastOne_56 : decode cX8_lastOne 56 = .ok (.iload 4, 2) := by decide +kernel
theorem dX8_lastOne_58 : decode cX8_lastOne 58 = .ok (.invokestatic 229, 3) := by decide +kernel
theorem dX8_lastOne_61 : decode cX8_lastOne 61 = .ok (.iadd, 1) := by decide +kernel
theorem dX8_lastOne_62 : decode cX8_lastOne 62 = .ok (.iaload, 1) := by decide +kernel
theorem dX8_lastOne_63 : decode cX8_lastOne 63 = .ok (.aload_n 0, 1) := by decide +kernel
theorem dX8_lastOne_64 : decode cX8_lastOne 64 = .ok (.iload_n 1, 1) := by decide +kernel
theorem dX8_lastOne_65 : decode cX8_lastOne 65 = .ok (.iconst 3, 1) := by decide +kernel
theorem dX8_lastOne_66 : decode cX8_lastOne 66 = .ok (.invokevirtual 225, 3) := by decide +kernel
theorem dX8_lastOne_69 : decode cX8_lastOne 69 = .ok (.if_icmp .ne 14, 3) := by decide +kernel
theorem dX8_lastOne_72 : decode cX8_lastOne 72 = .ok (.iload_n 3, 1) := by decide +kernel
theorem dX8_lastOne_73 : decode cX8_lastOne 73 = .ok (.iload_n 2, 1) := by decide +kernel
theorem dX8_lastOne_74 : decode cX8_lastOne 74 = .ok (.if_icmp .ne 6, 3) := by decide +kernel
theorem dX8_lastOne_77 : decode cX8_lastOne 77 = .ok (.iload 4, 2) := by decide +kernel
theorem dX8_lastOne_79 : decode cX8_lastOne 79 = .ok (.ireturn, 1) := by decide +kernel
theorem dX8_lastOne_80 : decode cX8_lastOne 80 = .ok (.iinc 3 1, 3) := by decide +kernel
theorem dX8_lastOne_83 : decode cX8_lastOne 83 = .ok (.iinc 4 1, 3) := by decide +kernel
theorem dX8_lastOne_86 : decode cX8_lastOne 86 = .ok (.goto (-49), 3) := by decide +kernel
theorem dX8_lastOne_89 : decode cX8_lastOne 89 = .ok (.iload_n 2, 1) := by decide +kernel
theorem dX8_lastOne_90 : decode cX8_lastOne 90 = .ok (.iconst (-1), 1) := by decide +kernel
theorem dX8_lastOne_91 : decode cX8_lastOne 91 = .ok (.if_icmp .ne 7, 3) := by decide +kernel
theorem dX8_lastOne_94 : decode cX8_lastOne 94 = .ok (.iload_n 3, 1) := by decide +kernel
theorem dX8_lastOne_95 : decode cX8_lastOne 95 = .ok (.goto 5, 3) := by decide +kernel
theorem dX8_lastOne_98 : decode cX8_lastOne 98 = .ok (.bipush (-2), 2) := by decide +kernel
theorem dX8_lastOne_100 : decode cX8_lastOne 100 = .ok (.ireturn, 1) := by decide +kernel
abbrev rX8_lastOne : Room := { frames := 2, cells := 0, slots := 0, locals := 46 }
theorem cal_X8_lastOne : CalOk yX8_lastOne cX8_lastOne 5 (some .int) 2 := ⟨wm_7_78, wm_1_9, by decide, by decide, by decide +kernel⟩
def f_X8_lastOne_37 : Nat → Nat → Int32 → Int32 → Int32 → Int32 → Mm → Option (Int32 × Mm)
  | 0, _, _, _, _, _, _ => none
  | n + 1, x0, x1, x2, x3, x4, M =>
    ck (gK M x0 = 8) (bd (f_X8_loanOf x0 x1 (0 : Int32) M) fun v2 M1 =>
    (if v2 < x4 then
      (if ¬ x2 = (-1 : Int32) then
        some ((-2 : Int32), M1)
      else
        some (x3, M1))
    else
      ck (gK M1 x0 = 8) (bR (gR M1 x0 17) fun q3 => bd (f_X8_bondAt x1 x4 M1) fun v5 M4 =>
      ck (gK M4 q3 = 10 ∧ inb ((480 : Int32) + v5) (gN M4 q3)) (ck (gK M4 x0 = 8) (bd (f_X8_loanOf x0 x1 (3 : Int32) M4) fun v7 M6 =>
      (if ¬ (gI M4 q3 (((480 : Int32) + v5)).toNatClampNeg) = v7 then
        f_X8_lastOne_37 n x0 x1 x2 x3 (x4 + (1 : Int32)) M6
      else
        (if ¬ x3 = x2 then
          f_X8_lastOne_37 n x0 x1 x2 (x3 + (1 : Int32)) (x4 + (1 : Int32)) M6
        else
          some (x4, M6))))))))
set_option maxRecDepth 20000 in
set_option maxHeartbeats 4000000 in
theorem s_X8_lastOne_37 {z : Zt} {K : Int32 → Mm → Prop} (hz : Good z RX8 cX8_lastOne 5 rX8_lastOne (some .int)) (hq : Ret z zI K) : ∀ (n : Nat) (x0 : Nat) (x1 : Int32) (x2 : Int32) (x3 : Int32) (x4 : Int32) (M : Mm), Sim z 37 [(0, .ref x0), (1, .int x1), (2, .int x2), (3, .int x3), (4, .int x4)] [] M 0 0 (f_X8_lastOne_37 n x0 x1 x2 x3 x4 M) K := by
  intro n
  induction n with
  | zero => exact fun _ _ _ _ _ _ => r_none
  | succ n ih =>
    intro x0 x1 x2 x3 x4 M
    unfold f_X8_lastOne_37
    refine r_iload hz dX8_lastOne_37 4 rfl ?_
    refine r_aload_n hz dX8_lastOne_39 0 rfl ?_
    refine r_iload_n hz dX8_lastOne_40 1 rfl ?_
    refine r_iconst (v := 0) hz dX8_lastOne_41 rfl ?_
    refine r_callVi (As := fun _ => [.int x1, .int (0 : Int32)]) cl8 hz (fun _ _ h => t_X8_loanOf _ _ _ _ _ _ h) cal_X8_loanOf dX8_lastOne_42 wm_6_68 wm_6_70 wm_p_66 rfl rfl (Nat.le_of_ble_eq_true rfl) ⟨(Nat.le_of_ble_eq_true rfl), (Nat.le_of_ble_eq_true rfl)⟩ ⟨(Nat.le_of_ble_eq_true rfl), (Nat.le_of_ble_eq_true rfl)⟩ (fun v2 M1 => ?_)
    refine r_icmp_gt (tgt := 89) hz dX8_lastOne_45 rfl ?_ ?_
    · refine r_iload_n hz dX8_lastOne_89 2 rfl ?_
      refine r_iconst (v := -1) hz dX8_lastOne_90 rfl ?_
      refine r_icmp_ne (tgt := 98) hz dX8_lastOne_91 rfl ?_ ?_
      · refine r_bipush (v := -2) hz dX8_lastOne_98 rfl ?_
        exact r_iret hz hq dX8_lastOne_100 (Nat.le_of_ble_eq_true rfl) (Nat.le_of_ble_eq_true rfl)
      · refine r_iload_n hz dX8_lastOne_94 3 rfl ?_
        refine r_goto (tgt := 100) hz dX8_lastOne_95 rfl ?_
        exact r_iret hz hq dX8_lastOne_100 (Nat.le_of_ble_eq_true rfl) (Nat.le_of_ble_eq_true rfl)
    · refine r_aload_n hz dX8_lastOne_48 0 rfl ?_
      refine r_getR (j := 17) cl8 hz dX8_lastOne_49 (by decide) wm_5_73 rfl (fun q3 => ?_)
      refine r_sipush (v := 480) hz dX8_lastOne_52 rfl ?_
      refine r_iload_n hz dX8_lastOne_55 1 rfl ?_
      refine r_iload hz dX8_lastOne_56 4 rfl ?_
      refine r_callSi (As := fun _ => [.int x1, .int x4]) hz (fun _ _ h => t_X8_bondAt _ _ _ _ _ h) cal_X8_bondAt dX8_lastOne_58 wm_6_72 wm_6_73 rfl rfl (Nat.le_of_ble_eq_true rfl) ⟨(Nat.le_of_ble_eq_true rfl), (Nat.le_of_ble_eq_true rfl)⟩ ⟨(Nat.le_of_ble_eq_true rfl), (Nat.le_of_ble_eq_true rfl)⟩ (fun v5 M4 => ?_)
      refine r_iadd hz dX8_lastOne_61 ?_
      refine r_iald hz dX8_lastOne_62 ?_
      refine r_aload_n hz dX8_lastOne_63 0 rfl ?_
      refine r_iload_n hz dX8_lastOne_64 1 rfl ?_
      refine r_iconst (v := 3) hz dX8_lastOne_65 rfl ?_
      refine r_callVi (As := fun _ => [.int x1, .int (3 : Int32)]) cl8 hz (fun _ _ h => t_X8_loanOf _ _ _ _ _ _ h) cal_X8_loanOf dX8_lastOne_66 wm_6_68 wm_6_70 wm_p_66 rfl rfl (Nat.le_of_ble_eq_true rfl) ⟨(Nat.le_of_ble_eq_true rfl), (Nat.le_of_ble_eq_true rfl)⟩ ⟨(Nat.le_of_ble_eq_true rfl), (Nat.le_of_ble_eq_true rfl)⟩ (fun v7 M6 => ?_)
      refine r_icmp_ne (tgt := 83) hz dX8_lastOne_69 rfl ?_ ?_
      · refine r_iinc (v := (x4 + (1 : Int32))) (lv' := [(4, .int (x4 + (1 : Int32))), (0, .ref x0), (1, .int x1), (2, .int x2), (3, .int x3)]) hz dX8_lastOne_83 4 rfl rfl (by decide) rfl ?_
        refine r_goto (tgt := 37) hz dX8_lastOne_86 rfl ?_
        refine r_sub [1, 2, 3, 4, 0] rfl ?_
        exact ih x0 x1 x2 x3 (x4 + (1 : Int32)) M6
      · refine r_iload_n hz dX8_lastOne_72 3 rfl ?_
        refine r_iload_n hz dX8_lastOne_73 2 rfl ?_
        refine r_icmp_ne (tgt := 80) hz dX8_lastOne_74 rfl ?_ ?_
        · refine r_iinc (v := (x3 + (1 : Int32))) (lv' := [(3, .int (x3 + (1 : Int32))), (0, .ref x0), (1, .int x1), (2, .int x2), (4, .int x4)]) hz dX8_lastOne_80 3 rfl rfl (by decide) rfl ?_
          refine r_iinc (v := (x4 + (1 : Int32))) (lv' := [(4, .int (x4 + (1 : Int32))), (3, .int (x3 + (1 : Int32))), (0, .ref x0), (1, .int x1), (2, .int x2)]) hz dX8_lastOne_83 4 rfl rfl (by decide) rfl ?_
          refine r_goto (tgt := 37) hz dX8_lastOne_86 rfl ?_
          refine r_sub [2, 3, 4, 1, 0] rfl ?_
          exact ih x0 x1 x2 (x3 + (1 : Int32)) (x4 + (1 : Int32)) M6
        · refine r_iload hz dX8_lastOne_77 4 rfl ?_
          exact r_iret hz hq dX8_lastOne_79 (Nat.le_of_ble_eq_true rfl) (Nat.le_of_ble_eq_true rfl)
def f_X8_lastOne (p0 : Nat) (p1 : Int32) (p2 : Int32) (M : Mm) : Option (Int32 × Mm) :=
  ck (gK M p0 = 8) (nm (sI M p0 0 (0 : Int32)) fun M1 =>
  ck (gK M1 p0 = 8) (bd (f_X8_isLoan p0 p1 M1) fun v3 M2 =>
  (if v3 = 0 then
    some ((-1 : Int32), M2)
  else
    ck (gK M2 p0 = 8) (bR (gR M2 p0 17) fun q4 => ck (gK M2 q4 = 10 ∧ inb (1206 : Int32) (gN M2 q4)) (ck (gK M2 p0 = 8) (bd (f_X8_loanOf p0 p1 (3 : Int32) M2) fun v6 M5 =>
    (if v6 ≤ (gI M2 q4 ((1206 : Int32)).toNatClampNeg) then
      f_X8_lastOne_37 FU p0 p1 p2 (0 : Int32) (1 : Int32) M5
    else
      some ((-1 : Int32), M5))))))))
set_option maxRecDepth 20000 in
set_option maxHeartbeats 4000000 in
theorem t_X8_lastOne (p0 : Nat) (p1 : Int32) (p2 : Int32) (M : Mm) (x : Int32) (M' : Mm) (h : f_X8_lastOne p0 p1 p2 M = some (x, M')) : Ctr yX8_lastOne cX8_lastOne 5 (some .int) rX8_lastOne (fun _ => [.ref p0, .int p1, .int p2]) M (zI x) M' := by
  refine ctr_of (plainFor_of_name (by decide)) (fun _ => Nat.le_of_ble_eq_true rfl) (fun z hz hin hq => ?_)
  have key : Sim z 0 [(0, .ref p0), (1, .int p1), (2, .int p2)] [] M 0 0 (f_X8_lastOne p0 p1 p2 M) (fun a b => a = x ∧ b = M') := by
    have hq : Ret z zI (fun a b => a = x ∧ b = M') := fun a b e => by rw [e.1, e.2]; exact hq
    unfold f_X8_lastOne
    refine r_aload_n hz dX8_lastOne_0 0 rfl ?_
    refine r_iconst (v := 0) hz dX8_lastOne_1 rfl ?_
    refine r_putI (j := 0) cl8 hz dX8_lastOne_2 (by decide) wm_5_56 (Or.inl rfl) rfl rfl rfl ?_
    refine r_nmM (fun M1 => ?_)
    refine r_aload_n hz dX8_lastOne_5 0 rfl ?_
    refine r_iload_n hz dX8_lastOne_6 1 rfl ?_
    refine r_callVi (As := fun _ => [.int p1]) cl8 hz (fun _ _ h => t_X8_isLoan _ _ _ _ _ h) cal_X8_isLoan dX8_lastOne_7 wm_6_79 wm_6_81 wm_p_67 rfl rfl (Nat.le_of_ble_eq_true rfl) ⟨(Nat.le_of_ble_eq_true rfl), (Nat.le_of_ble_eq_true rfl)⟩ ⟨(Nat.le_of_ble_eq_true rfl), (Nat.le_of_ble_eq_true rfl)⟩ (fun v3 M2 => ?_)
    refine r_if_eq (tgt := 30) hz dX8_lastOne_10 rfl ?_ ?_
    · refine r_iconst (v := -1) hz dX8_lastOne_30 rfl ?_
      exact r_iret hz hq dX8_lastOne_31 (Nat.le_of_ble_eq_true rfl) (Nat.le_of_ble_eq_true rfl)
    · refine r_aload_n hz dX8_lastOne_13 0 rfl ?_
      refine r_getR (j := 17) cl8 hz dX8_lastOne_14 (by decide) wm_5_73 rfl (fun q4 => ?_)
      refine r_sipush (v := 1206) hz dX8_lastOne_17 rfl ?_
      refine r_iald hz dX8_lastOne_20 ?_
      refine r_aload_n hz dX8_lastOne_21 0 rfl ?_
      refine r_iload_n hz dX8_lastOne_22 1 rfl ?_
      refine r_iconst (v := 3) hz dX8_lastOne_23 rfl ?_
      refine r_callVi (As := fun _ => [.int p1, .int (3 : Int32)]) cl8 hz (fun _ _ h => t_X8_loanOf _ _ _ _ _ _ h) cal_X8_loanOf dX8_lastOne_24 wm_6_68 wm_6_70 wm_p_66 rfl rfl (Nat.le_of_ble_eq_true rfl) ⟨(Nat.le_of_ble_eq_true rfl), (Nat.le_of_ble_eq_true rfl)⟩ ⟨(Nat.le_of_ble_eq_true rfl), (Nat.le_of_ble_eq_true rfl)⟩ (fun v6 M5 => ?_)
      refine r_icmp_ge (tgt := 32) hz dX8_lastOne_27 rfl ?_ ?_
      · refine r_iconst (v := 0) hz dX8_lastOne_32 rfl ?_
        refine r_istore_n (lv' := [(3, .int (0 : Int32)), (0, .ref p0), (1, .int p1), (2, .int p2)]) hz dX8_lastOne_33 (by decide) rfl ?_
        refine r_iconst (v := 1) hz dX8_lastOne_34 rfl ?_
        refine r_istore (lv' := [(4, .int (1 : Int32)), (3, .int (0 : Int32)), (0, .ref p0), (1, .int p1), (2, .int p2)]) hz dX8_lastOne_35 (by decide) rfl ?_
        refine r_sub [2, 3, 4, 1, 0] rfl ?_
        exact s_X8_lastOne_37 hz hq FU p0 p1 p2 (0 : Int32) (1 : Int32) M5
      · refine r_iconst (v := -1) hz dX8_lastOne_30 rfl ?_
        exact r_iret hz hq dX8_lastOne_31 (Nat.le_of_ble_eq_true rfl) (Nat.le_of_ble_eq_true rfl)
  exact key x M' h ⟨rfl, rfl⟩
theorem dX8_replayed_0 : decode cX8_replayed 0 = .ok (.aload_n 0, 1) := by decide +kernel
theorem dX8_replayed_1 : decode cX8_replayed 1 = .ok (.iconst 0, 1) := by decide +kernel
theorem dX8_replayed_2 : decode cX8_replayed 2 = .ok (.putfield 46, 3) := by decide +kernel
theorem dX8_replayed_5 : decode cX8_replayed 5 = .ok (.aload_n 0, 1) := by decide +kernel
theorem dX8_replayed_6 : decode cX8_replayed 6 = .ok (.iload_n 1, 1) := by decide +kernel
theorem dX8_replayed_7 : decode cX8_replayed 7 = .ok (.iload_n 2, 1) := by decide +kernel
theorem dX8_replayed_8 : decode cX8_replayed 8 = .ok (.invokevirtual 382, 3) := by decide +kernel
theorem dX8_replayed_11 : decode cX8_replayed 11 = .ok (.ifCond .eq 14, 3) := by decide +kernel
theorem dX8_replayed_14 : decode cX8_replayed 14 = .ok (.iload_n 3, 1) := by decide +kernel
theorem dX8_replayed_15 : decode cX8_replayed 15 = .ok (.ifCond .eq 12, 3) := by decide +kernel
theorem dX8_replayed_18 : decode cX8_replayed 18 = .ok (.iload_n 3, 1) := by decide +kernel
theorem dX8_replayed_19 : decode cX8_replayed 19 = .ok (.invokestatic 324, 3) := by decide +kernel
theorem dX8_replayed_22 : decode cX8_replayed 22 = .ok (.ifCond .ne 5, 3) := by decide +kernel
theorem dX8_replayed_25 : decode cX8_replayed 25 = .ok (.iconst (-1), 1) := by decide +kernel
theorem dX8_replayed_26 : decode cX8_replayed 26 = .ok (.ireturn, 1) := by decide +kernel
theorem dX8_replayed_27 : decode cX8_replayed 27 = .ok (.iconst 0, 1) := by decide +kernel
theorem dX8_replayed_28 : decode cX8_replayed 28 = .ok (.istore 4, 2) := by decide +kernel
theorem dX8_replayed_30 : decode cX8_replayed 30 = .ok (.iconst 1, 1) := by decide +kernel
theorem dX8_replayed_31 : decode cX8_replayed 31 = .ok (.istore 5, 2) := by decide +kernel
theorem dX8_replayed_33 : decode cX8_replayed 33 = .ok (.iload 5, 2) := by decide +kernel
theorem dX8_replayed_35 : decode cX8_replayed 35 = .ok (.aload_n 0, 1) := by decide +kernel
theorem dX8_replayed_36 : decode cX8_replayed 36 = .ok (.iload_n 1, 1) := by decide +kernel
theorem dX8_replayed_37 : decode cX8_replayed 37 = .ok (.iconst 0, 1) := by decide +kernel
theorem dX8_replayed_38 : decode cX8_replayed 38 = .ok (.invokevirtual 225, 3) := by decide +kernel
theorem dX8_replayed_41 : decode cX8_replayed 41 = .ok (.if_icmp .gt 69, 3) := by decide +kernel
theorem dX8_replayed_44 : decode cX8_replayed 44 = .ok (.aload_n 0, 1) := by decide +kernel
theorem dX8_replayed_45 : decode cX8_replayed 45 = .ok (.getfield 20, 3) := by decide +kernel
theorem dX8_replayed_48 : decode cX8_replayed 48 = .ok (.sipush 480, 3) := by decide +kernel
theorem dX8_replayed_51 : decode cX8_replayed 51 = .ok (.iload_n 1, 1) := by decide +kernel
theorem dX8_replayed_52 : decode cX8_replayed 52 = .ok (.iload 5, 2) := by decide +kernel
theorem dX8_replayed_54 : decode cX8_replayed 54 = .ok (.invokestatic 229, 3) := by decide +kernel
theorem dX8_replayed_57 : decode cX8_replayed 57 = .ok (.iadd, 1) := by decide +kernel
theorem dX8_replayed_58 : decode cX8_replayed 58 = .ok (.iaload, 1) := by decide +kernel
theorem dX8_replayed_59 : decode cX8_replayed 59 = .ok (.istore 6, 2) := by decide +kernel
theorem dX8_replayed_61 : decode cX8_replayed 61 = .ok (.aload_n 0, 1) := by decide +kernel
theorem dX8_replayed_62 : decode cX8_replayed 62 = .ok (.getfield 43, 3) := by decide +kernel
theorem dX8_replayed_65 : decode cX8_replayed 65 = .ok (.iload 5, 2) := by decide +kernel
theorem dX8_replayed_67 : decode cX8_replayed 67 = .ok (.iload 6, 2) := by decide +kernel
theorem dX8_replayed_69 : decode cX8_replayed 69 = .ok (.ifCond .eq 9, 3) := by decide +kernel
theorem dX8_replayed_72 : decode cX8_replayed 72 = .ok (.iload 6, 2) := by decide +kernel
theorem dX8_replayed_74 : decode cX8_replayed 74 = .ok (.iload_n 2, 1) := by decide +kernel
theorem dX8_replayed_75 : decode cX8_replayed 75 = .ok (.if_icmp .lt 7, 3) := by decide +kernel
theorem dX8_replayed_78 : decode cX8_replayed 78 = .ok (.iconst 1, 1) := by decide +kernel
theorem dX8_replayed_79 : decode cX8_replayed 79 = .ok (.goto 4, 3) := by decide +kernel
theorem dX8_replayed_82 : decode cX8_replayed 82 = .ok (.iconst 0, 1) := by decide +kernel
theorem dX8_replayed_83 : decode cX8_replayed 83 = .ok (.bastore, 1) := by decide +kernel
theorem dX8_replayed_84 : decode cX8_replayed 84 = .ok (.iload 4, 2) := by decide +kernel
theorem dX8_replayed_86 : decode cX8_replayed 86 = .ok (.aload_n 0, 1) := by decide +kernel
theorem dX8_replayed_87 : decode cX8_replayed 87 = .ok (.getfield 43, 3) := by decide +kernel
theorem dX8_replayed_90 : decode cX8_replayed 90 = .ok (.iload 5, 2) := by decide +kernel
theorem dX8_replayed_92 : decode cX8_replayed 92 = .ok (.baload, 1) := by decide +kernel
theorem dX8_replayed_93 : decode cX8_replayed 93 = .ok (.ifCond .eq 7, 3) := by decide +kernel
theorem dX8_replayed_96 : decode cX8_replayed 96 = .ok (.iconst 1, 1) := by decide +kernel
theorem dX8_replayed_97 : decode cX8_replayed 97 = .ok (.goto 4, 3) := by decide +kernel
theorem dX8_replayed_100 : decode cX8_replayed 100 = .ok (.iconst 0, 1) := by decide +kernel
theorem dX8_replayed_101 : decode cX8_replayed 101 = .ok (.iadd, 1) := by decide +kernel
theorem dX8_replayed_102 : decode cX8_replayed 102 = .ok (.istore 4, 2) := by decide +kernel
theorem dX8_replayed_104 : decode cX8_replayed 104 = .ok (.iinc 5 1, 3) := by decide +kernel
theorem dX8_replayed_107 : decode cX8_replayed 107 = .ok (.goto (-74), 3) := by decide +kernel
theorem dX8_replayed_110 : decode cX8_replayed 110 = .ok (.iload_n 3, 1) := by decide +kernel
theorem dX8_replayed_111 : decode cX8_replayed 111 = .ok (.ifCond .ne 21, 3) := by decide +kernel
theorem dX8_replayed_114 : decode cX8_replayed 114 = .ok (.aload_n 0, 1) := by decide +kernel
theorem dX8_replayed_115 : decode cX8_replayed 115 = .ok (.getfield 20, 3) := by decide +kernel
theorem dX8_replayed_118 : decode cX8_replayed 118 = .ok (.sipush 1299, 3) := by decide +kernel
theorem dX8_replayed_121 : decode cX8_replayed 121 = .ok (.bipush 21, 2) := by decide +kernel
theorem dX8_replayed_123 : decode cX8_replayed 123 = .ok (.iload_n 1, 1) := by decide +kernel
theorem dX8_replayed_124 : decode cX8_replayed 124 = .ok (.imul, 1) := by decide +kernel
theorem dX8_replayed_125 : decode cX8_replayed 125 = .ok (.iadd, 1) := by decide +kernel
theorem dX8_replayed_126 : decode cX8_replayed 126 = .ok (.iload_n 2, 1) := by decide +kernel
theorem dX8_replayed_127 : decode cX8_replayed 127 = .ok (.iadd, 1) := by decide +kernel
theorem dX8_replayed_128 : decode cX8_replayed 128 = .ok (.iaload, 1) := by decide +kernel
theorem dX8_replayed_129 : decode cX8_replayed 129 = .ok (.goto 4, 3) := by decide +kernel
theorem dX8_replayed_132 : decode cX8_replayed 132 = .ok (.iload_n 3, 1) := by decide +kernel
theorem dX8_replayed_133 : decode cX8_replayed 133 = .ok (.istore 5, 2) := by decide +kernel
theorem dX8_replayed_135 : decode cX8_replayed 135 = .ok (.aload_n 0, 1) := by decide +kernel
theorem dX8_replayed_136 : decode cX8_replayed 136 = .ok (.iload_n 1, 1) := by decide +kernel
theorem dX8_replayed_137 : decode cX8_replayed 137 = .ok (.iload_n 2, 1) := by decide +kernel
theorem dX8_replayed_138 : decode cX8_replayed 138 = .ok (.invokevirtual 385, 3) := by decide +kernel
theorem dX8_replayed_141 : decode cX8_replayed 141 = .ok (.istore 6, 2) := by decide +kernel
theorem dX8_replayed_143 : decode cX8_replayed 143 = .ok (.iconst 1, 1) := by decide +kernel
theorem dX8_replayed_144 : decode cX8_replayed 144 = .ok (.istore 7, 2) := by decide +kernel
theorem dX8_replayed_146 : decode cX8_replayed 146 = .ok (.iload 7, 2) := by decide +kernel
theorem dX8_replayed_148 : decode cX8_replayed 148 = .ok (.iload 6, 2) := by decide +kernel
theorem dX8_replayed_150 : decode cX8_replayed 150 = .ok (.if_icmp .gt 83, 3) := by decide +kernel
theorem dX8_replayed_153 : decode cX8_replayed 153 = .ok (.iload 5, 2) := by decide +kernel
theorem dX8_replayed_155 : decode cX8_replayed 155 = .ok (.invokestatic 289, 3) := by decide +kernel
theorem dX8_replayed_158 : decode cX8_replayed 158 = .ok (.istore 5, 2) := by decide +kernel
theorem dX8_replayed_160 : decode cX8_replayed 160 = .ok (.iload 5, 2) := by decide +kernel
theorem dX8_replayed_162 : decode cX8_replayed 162 = .ok (.iload 4, 2) := by decide +kernel
theorem dX8_replayed_164 : decode cX8_replayed 164 = .ok (.irem, 1) := by decide +kernel
theorem dX8_replayed_165 : decode cX8_replayed 165 = .ok (.istore 8, 2) := by decide +kernel
theorem dX8_replayed_167 : decode cX8_replayed 167 = .ok (.iconst 0, 1) := by decide +kernel
theorem dX8_replayed_168 : decode cX8_replayed 168 = .ok (.istore 9, 2) := by decide +kernel
theorem dX8_replayed_170 : decode cX8_replayed 170 = .ok (.iinc 9 1, 3) := by decide +kernel
theorem dX8_replayed_173 : decode cX8_replayed 173 = .ok (.iload 8, 2) := by decide +kernel
theorem dX8_replayed_175 : decode cX8_replayed 175 = .ok (.aload_n 0, 1) := by decide +kernel
theorem dX8_replayed_176 : decode cX8_replayed 176 = .ok (.getfield 43, 3) := by decide +kernel
theorem dX8_replayed_179 : decode cX8_replayed 179 = .ok (.iload 9, 2) := by decide +kernel
theorem dX8_replayed_181 : decode cX8_replayed 181 = .ok (.baload, 1) := by decide +kernel
theorem dX8_replayed_182 : decode cX8_replayed 182 = .ok (.ifCond .eq 7, 3) := by decide +kernel
theorem dX8_replayed_185 : decode cX8_replayed 185 = .ok (.iconst 1, 1) := by decide +kernel
theorem dX8_replayed_186 : decode cX8_replayed 186 = .ok (.goto 4, 3) := by decide +kernel
theorem dX8_replayed_189 : decode cX8_replayed 189 = .ok (.iconst 0, 1) := by decide +kernel
theorem dX8_replayed_190 : decode cX8_replayed 190 = .ok (.isub, 1) := by decide +kernel
theorem dX8_replayed_191 : decode cX8_replayed 191 = .ok (.istore 8, 2) := by decide +kernel
theorem dX8_replayed_193 : decode cX8_replayed 193 = .ok (.iload 8, 2) := by decide +kernel
theorem dX8_replayed_195 : decode cX8_replayed 195 = .ok (.ifCond .ge (-25), 3) := by decide +kernel
theorem dX8_replayed_198 : decode cX8_replayed 198 = .ok (.aload_n 0, 1) := by decide +kernel
theorem dX8_replayed_199 : decode cX8_replayed 199 = .ok (.iload_n 1, 1) := by decide +kernel
theorem dX8_replayed_200 : decode cX8_replayed 200 = .ok (.iload_n 2, 1) := by decide +kernel
theorem dX8_replayed_201 : decode cX8_replayed 201 = .ok (.iload 7, 2) := by decide +kernel
theorem dX8_replayed_203 : decode cX8_replayed 203 = .ok (.invokevirtual 388, 3) := by decide +kernel
theorem dX8_replayed_206 : decode cX8_replayed 206 = .ok (.iload 9, 2) := by decide +kernel
theorem dX8_replayed_208 : decode cX8_replayed 208 = .ok (.if_icmp .eq 8, 3) := by decide +kernel
theorem dX8_replayed_211 : decode cX8_replayed 211 = .ok (.iload 7, 2) := by decide +kernel
theorem dX8_replayed_213 : decode cX8_replayed 213 = .ok (.iconst 1, 1) := by decide +kernel
theorem dX8_replayed_214 : decode cX8_replayed 214 = .ok (.isub, 1) := by decide +kernel
theorem dX8_replayed_215 : decode cX8_replayed 215 = .ok (.ireturn, 1) := by decide +kernel
theorem dX8_replayed_216 : decode cX8_replayed 216 = .ok (.aload_n 0, 1) := by decide +kernel
theorem dX8_replayed_217 : decode cX8_replayed 217 = .ok (.getfield 43, 3) := by decide +kernel
theorem dX8_replayed_220 : decode cX8_replayed 220 = .ok (.iload 9, 2) := by decide +kernel
theorem dX8_replayed_222 : decode cX8_replayed 222 = .ok (.iconst 0, 1) := by decide +kernel
theorem dX8_replayed_223 : decode cX8_replayed 223 = .ok (.bastore, 1) := by decide +kernel
theorem dX8_replayed_224 : decode cX8_replayed 224 = .ok (.iinc 4 (-1), 3) := by decide +kernel
theorem dX8_replayed_227 : decode cX8_replayed 227 = .ok (.iinc 7 1, 3) := by decide +kernel
theorem dX8_replayed_230 : decode cX8_replayed 230 = .ok (.goto (-84), 3) := by decide +kernel
theorem dX8_replayed_233 : decode cX8_replayed 233 = .ok (.iload 6, 2) := by decide +kernel
theorem dX8_replayed_235 : decode cX8_replayed 235 = .ok (.ireturn, 1) := by decide +kernel
abbrev rX8_replayed : Room := { frames := 4, cells := 0, slots := 0, locals := 90 }
theorem cal_X8_replayed : CalOk yX8_replayed cX8_replayed 10 (some .int) 3 := ⟨wm_7_82, wm_1_9, by decide, by decide, by decide +kernel⟩
def f_X8_replayed_190 (r146 : Nat → Int32 → Int32 → Int32 → Int32 → Int32 → Int32 → Mm → Option (Int32 × Mm)) (r170 : Nat → Int32 → Int32 → Int32 → Int32 → Int32 → Int32 → Int32 → Int32 → Mm → Option (Int32 × Mm)) (x0 : Nat) (x1 : Int32) (x2 : Int32) (x4 : Int32) (x5 : Int32) (x6 : Int32) (x7 : Int32) (x9 : Int32) (y0 : Int32) (y1 : Int32) (M : Mm) : Option (Int32 × Mm) :=
  nm (y1 - y0) fun v1 =>
  (if 0 ≤ v1 then
    r170 x0 x1 x2 x4 x5 x6 x7 v1 x9 M
  else
    ck (gK M x0 = 8) (bd (f_X8_inLot x0 x1 x2 x7 M) fun v3 M2 =>
    (if v3 = x9 then
      ck (gK M2 x0 = 8) (bR (gR M2 x0 31) fun q4 => ck (gK M2 q4 = 11 ∧ inb x9 (gN M2 q4)) (nm (sI M2 q4 (x9).toNatClampNeg (vp_nar .boolean (0 : Int32))) fun M5 =>
      r146 x0 x1 x2 (x4 + (-1 : Int32)) x5 x6 (x7 + (1 : Int32)) M5))
    else
      some ((x7 - (1 : Int32)), M2))))
set_option maxRecDepth 20000 in
set_option maxHeartbeats 4000000 in
theorem s_X8_replayed_190 {z : Zt} {K : Int32 → Mm → Prop} (hz : Good z RX8 cX8_replayed 10 rX8_replayed (some .int)) (hq : Ret z zI K) {r146 : Nat → Int32 → Int32 → Int32 → Int32 → Int32 → Int32 → Mm → Option (Int32 × Mm)} (H146 : ∀ (x0 : Nat) (x1 : Int32) (x2 : Int32) (x4 : Int32) (x5 : Int32) (x6 : Int32) (x7 : Int32) (M : Mm), Sim z 146 [(0, .ref x0), (1, .int x1), (2, .int x2), (4, .int x4), (5, .int x5), (6, .int x6), (7, .int x7)] [] M 0 0 (r146 x0 x1 x2 x4 x5 x6 x7 M) K) {r170 : Nat → Int32 → Int32 → Int32 → Int32 → Int32 → Int32 → Int32 → Int32 → Mm → Option (Int32 × Mm)} (H170 : ∀ (x0 : Nat) (x1 : Int32) (x2 : Int32) (x4 : Int32) (x5 : Int32) (x6 : Int32) (x7 : Int32) (x8 : Int32) (x9 : Int32) (M : Mm), Sim z 170 [(0, .ref x0), (1, .int x1), (2, .int x2), (4, .int x4), (5, .int x5), (6, .int x6), (7, .int x7), (8, .int x8), (9, .int x9)] [] M 0 0 (r170 x0 x1 x2 x4 x5 x6 x7 x8 x9 M) K) : ∀ (x0 : Nat) (x1 : Int32) (x2 : Int32) (x4 : Int32) (x5 : Int32) (x6 : Int32) (x7 : Int32) (x9 : Int32) (y0 : Int32) (y1 : Int32) (M : Mm), Sim z 190 [(0, .ref x0), (1, .int x1), (2, .int x2), (4, .int x4), (5, .int x5), (6, .int x6), (7, .int x7), (9, .int x9)] [.int y0, .int y1] M 0 0 (f_X8_replayed_190 r146 r170 x0 x1 x2 x4 x5 x6 x7 x9 y0 y1 M) K := by
  intro x0 x1 x2 x4 x5 x6 x7 x9 y0 y1 M
  unfold f_X8_replayed_190
  refine r_isub hz dX8_replayed_190 ?_
  refine r_nmi (fun v1 => ?_)
  refine r_istore (lv' := [(8, .int v1), (0, .ref x0), (1, .int x1), (2, .int x2), (4, .int x4), (5, .int x5), (6, .int x6), (7, .int x7), (9, .int x9)]) hz dX8_replayed_191 (by decide) rfl ?_
  refine r_iload hz dX8_replayed_193 0 rfl ?_
  refine r_if_ge (tgt := 170) hz dX8_replayed_195 rfl ?_ ?_
  · refine r_sub [1, 2, 3, 4, 5, 6, 7, 0, 8] rfl ?_
    exact H170 x0 x1 x2 x4 x5 x6 x7 v1 x9 M
  · refine r_aload_n hz dX8_replayed_198 1 rfl ?_
    refine r_iload_n hz dX8_replayed_199 2 rfl ?_
    refine r_iload_n hz dX8_replayed_200 3 rfl ?_
    refine r_iload hz dX8_replayed_201 7 rfl ?_
    refine r_callVi (As := fun _ => [.int x1, .int x2, .int x7]) cl8 hz (fun _ _ h => t_X8_inLot _ _ _ _ _ _ _ h) cal_X8_inLot dX8_replayed_203 wm_7_71 wm_7_73 wm_p_90 rfl rfl (Nat.le_of_ble_eq_true rfl) ⟨(Nat.le_of_ble_eq_true rfl), (Nat.le_of_ble_eq_true rfl)⟩ ⟨(Nat.le_of_ble_eq_true rfl), (Nat.le_of_ble_eq_true rfl)⟩ (fun v3 M2 => ?_)
    refine r_iload hz dX8_replayed_206 8 rfl ?_
    refine r_icmp_eq (tgt := 216) hz dX8_replayed_208 rfl ?_ ?_
    · refine r_aload_n hz dX8_replayed_216 1 rfl ?_
      refine r_getR (j := 31) cl8 hz dX8_replayed_217 (by decide) wm_5_87 rfl (fun q4 => ?_)
      refine r_iload hz dX8_replayed_220 8 rfl ?_
      refine r_iconst (v := 0) hz dX8_replayed_222 rfl ?_
      refine r_zast hz dX8_replayed_223 ?_
      refine r_nmM (fun M5 => ?_)
      refine r_iinc (v := (x4 + (-1 : Int32))) (lv' := [(4, .int (x4 + (-1 : Int32))), (8, .int v1), (0, .ref x0), (1, .int x1), (2, .int x2), (5, .int x5), (6, .int x6), (7, .int x7), (9, .int x9)]) hz dX8_replayed_224 4 rfl rfl (by decide) rfl ?_
      refine r_iinc (v := (x7 + (1 : Int32))) (lv' := [(7, .int (x7 + (1 : Int32))), (4, .int (x4 + (-1 : Int32))), (8, .int v1), (0, .ref x0), (1, .int x1), (2, .int x2), (5, .int x5), (6, .int x6), (9, .int x9)]) hz dX8_replayed_227 7 rfl rfl (by decide) rfl ?_
      refine r_goto (tgt := 146) hz dX8_replayed_230 rfl ?_
      refine r_sub [3, 4, 5, 1, 6, 7, 0] rfl ?_
      exact H146 x0 x1 x2 (x4 + (-1 : Int32)) x5 x6 (x7 + (1 : Int32)) M5
    · refine r_iload hz dX8_replayed_211 7 rfl ?_
      refine r_iconst (v := 1) hz dX8_replayed_213 rfl ?_
      refine r_isub hz dX8_replayed_214 ?_
      exact r_iret hz hq dX8_replayed_215 (Nat.le_of_ble_eq_true rfl) (Nat.le_of_ble_eq_true rfl)
def f_X8_replayed_170 (r146 : Nat → Int32 → Int32 → Int32 → Int32 → Int32 → Int32 → Mm → Option (Int32 × Mm)) : Nat → Nat → Int32 → Int32 → Int32 → Int32 → Int32 → Int32 → Int32 → Int32 → Mm → Option (Int32 × Mm)
  | 0, _, _, _, _, _, _, _, _, _, _ => none
  | n + 1, x0, x1, x2, x4, x5, x6, x7, x8, x9, M =>
    ck (gK M x0 = 8) (bR (gR M x0 31) fun q2 => ck (gK M q2 = 11 ∧ inb (x9 + (1 : Int32)) (gN M q2)) ((if (gI M q2 ((x9 + (1 : Int32))).toNatClampNeg) = 0 then
      f_X8_replayed_190 r146 (f_X8_replayed_170 r146 n) x0 x1 x2 x4 x5 x6 x7 (x9 + (1 : Int32)) (0 : Int32) x8 M
    else
      f_X8_replayed_190 r146 (f_X8_replayed_170 r146 n) x0 x1 x2 x4 x5 x6 x7 (x9 + (1 : Int32)) (1 : Int32) x8 M)))
set_option maxRecDepth 20000 in
set_option maxHeartbeats 4000000 in
theorem s_X8_replayed_170 {z : Zt} {K : Int32 → Mm → Prop} (hz : Good z RX8 cX8_replayed 10 rX8_replayed (some .int)) (hq : Ret z zI K) {r146 : Nat → Int32 → Int32 → Int32 → Int32 → Int32 → Int32 → Mm → Option (Int32 × Mm)} (H146 : ∀ (x0 : Nat) (x1 : Int32) (x2 : Int32) (x4 : Int32) (x5 : Int32) (x6 : Int32) (x7 : Int32) (M : Mm), Sim z 146 [(0, .ref x0), (1, .int x1), (2, .int x2), (4, .int x4), (5, .int x5), (6, .int x6), (7, .int x7)] [] M 0 0 (r146 x0 x1 x2 x4 x5 x6 x7 M) K) : ∀ (n : Nat) (x0 : Nat) (x1 : Int32) (x2 : Int32) (x4 : Int32) (x5 : Int32) (x6 : Int32) (x7 : Int32) (x8 : Int32) (x9 : Int32) (M : Mm), Sim z 170 [(0, .ref x0), (1, .int x1), (2, .int x2), (4, .int x4), (5, .int x5), (6, .int x6), (7, .int x7), (8, .int x8), (9, .int x9)] [] M 0 0 (f_X8_replayed_170 r146 n x0 x1 x2 x4 x5 x6 x7 x8 x9 M) K := by
  intro n
  induction n with
  | zero => exact fun _ _ _ _ _ _ _ _ _ _ => r_none
  | succ n ih =>
    intro x0 x1 x2 x4 x5 x6 x7 x8 x9 M
    unfold f_X8_replayed_170
    refine r_iinc (v := (x9 + (1 : Int32))) (lv' := [(9, .int (x9 + (1 : Int32))), (0, .ref x0), (1, .int x1), (2, .int x2), (4, .int x4), (5, .int x5), (6, .int x6), (7, .int x7), (8, .int x8)]) hz dX8_replayed_170 8 rfl rfl (by decide) rfl ?_
    refine r_iload hz dX8_replayed_173 8 rfl ?_
    refine r_aload_n hz dX8_replayed_175 1 rfl ?_
    refine r_getR (j := 31) cl8 hz dX8_replayed_176 (by decide) wm_5_87 rfl (fun q2 => ?_)
    refine r_iload hz dX8_replayed_179 0 rfl ?_
    refine r_zald hz dX8_replayed_181 ?_
    refine r_if_eq (tgt := 189) hz dX8_replayed_182 rfl ?_ ?_
    · refine r_iconst (v := 0) hz dX8_replayed_189 rfl ?_
      refine r_sub [1, 2, 3, 4, 5, 6, 7, 0] rfl ?_
      exact s_X8_replayed_190 hz hq H146 ih x0 x1 x2 x4 x5 x6 x7 (x9 + (1 : Int32)) (0 : Int32) x8 M
    · refine r_iconst (v := 1) hz dX8_replayed_185 rfl ?_
      refine r_goto (tgt := 190) hz dX8_replayed_186 rfl ?_
      refine r_sub [1, 2, 3, 4, 5, 6, 7, 0] rfl ?_
      exact s_X8_replayed_190 hz hq H146 ih x0 x1 x2 x4 x5 x6 x7 (x9 + (1 : Int32)) (1 : Int32) x8 M
def f_X8_replayed_146 : Nat → Nat → Int32 → Int32 → Int32 → Int32 → Int32 → Int32 → Mm → Option (Int32 × Mm)
  | 0, _, _, _, _, _, _, _, _ => none
  | n + 1, x0, x1, x2, x4, x5, x6, x7, M =>
    (if x6 < x7 then
      some (x6, M)
    else
      bd (f_X8_turns x5 M) fun v2 M1 =>
      ck (¬ x4 = 0) (nm (v2 - v2 / x4 * x4) fun v3 =>
      f_X8_replayed_170 (f_X8_replayed_146 n) FU x0 x1 x2 x4 v2 x6 x7 v3 (0 : Int32) M1))
set_option maxRecDepth 20000 in
set_option maxHeartbeats 4000000 in
theorem s_X8_replayed_146 {z : Zt} {K : Int32 → Mm → Prop} (hz : Good z RX8 cX8_replayed 10 rX8_replayed (some .int)) (hq : Ret z zI K) : ∀ (n : Nat) (x0 : Nat) (x1 : Int32) (x2 : Int32) (x4 : Int32) (x5 : Int32) (x6 : Int32) (x7 : Int32) (M : Mm), Sim z 146 [(0, .ref x0), (1, .int x1), (2, .int x2), (4, .int x4), (5, .int x5), (6, .int x6), (7, .int x7)] [] M 0 0 (f_X8_replayed_146 n x0 x1 x2 x4 x5 x6 x7 M) K := by
  intro n
  induction n with
  | zero => exact fun _ _ _ _ _ _ _ _ => r_none
  | succ n ih =>
    intro x0 x1 x2 x4 x5 x6 x7 M
    unfold f_X8_replayed_146
    refine r_iload hz dX8_replayed_146 6 rfl ?_
    refine r_iload hz dX8_replayed_148 5 rfl ?_
    refine r_icmp_gt (tgt := 233) hz dX8_replayed_150 rfl ?_ ?_
    · refine r_iload hz dX8_replayed_233 5 rfl ?_
      exact r_iret hz hq dX8_replayed_235 (Nat.le_of_ble_eq_true rfl) (Nat.le_of_ble_eq_true rfl)
    · refine r_iload hz dX8_replayed_153 4 rfl ?_
      refine r_callSi (As := fun _ => [.int x5]) hz (fun _ _ h => t_X8_turns _ _ _ _ h) cal_X8_turns dX8_replayed_155 wm_6_143 wm_6_144 rfl rfl (Nat.le_of_ble_eq_true rfl) ⟨(Nat.le_of_ble_eq_true rfl), (Nat.le_of_ble_eq_true rfl)⟩ ⟨(Nat.le_of_ble_eq_true rfl), (Nat.le_of_ble_eq_true rfl)⟩ (fun v2 M1 => ?_)
      refine r_istore (lv' := [(5, .int v2), (0, .ref x0), (1, .int x1), (2, .int x2), (4, .int x4), (6, .int x6), (7, .int x7)]) hz dX8_replayed_158 (by decide) rfl ?_
      refine r_iload hz dX8_replayed_160 0 rfl ?_
      refine r_iload hz dX8_replayed_162 4 rfl ?_
      refine r_irem hz dX8_replayed_164 ?_
      refine r_nmi (fun v3 => ?_)
      refine r_istore (lv' := [(8, .int v3), (5, .int v2), (0, .ref x0), (1, .int x1), (2, .int x2), (4, .int x4), (6, .int x6), (7, .int x7)]) hz dX8_replayed_165 (by decide) rfl ?_
      refine r_iconst (v := 0) hz dX8_replayed_167 rfl ?_
      refine r_istore (lv' := [(9, .int (0 : Int32)), (8, .int v3), (5, .int v2), (0, .ref x0), (1, .int x1), (2, .int x2), (4, .int x4), (6, .int x6), (7, .int x7)]) hz dX8_replayed_168 (by decide) rfl ?_
      refine r_sub [3, 4, 5, 6, 2, 7, 8, 1, 0] rfl ?_
      exact s_X8_replayed_170 hz hq ih FU x0 x1 x2 x4 v2 x6 x7 v3 (0 : Int32) M1
def f_X8_replayed_83 (r33 : Nat → Int32 → Int32 → Int32 → Int32 → Int32 → Mm → Option (Int32 × Mm)) (x0 : Nat) (x1 : Int32) (x2 : Int32) (x3 : Int32) (x4 : Int32) (x5 : Int32) (y0 : Int32) (y1 : Int32) (y2 : Nat) (M : Mm) : Option (Int32 × Mm) :=
  ck (gK M y2 = 11 ∧ inb y1 (gN M y2)) (nm (sI M y2 (y1).toNatClampNeg (vp_nar .boolean y0)) fun M1 =>
  ck (gK M1 x0 = 8) (bR (gR M1 x0 31) fun q2 => ck (gK M1 q2 = 11 ∧ inb x5 (gN M1 q2)) ((if (gI M1 q2 (x5).toNatClampNeg) = 0 then
    nm (x4 + (0 : Int32)) fun v3 =>
    r33 x0 x1 x2 x3 v3 (x5 + (1 : Int32)) M1
  else
    nm (x4 + (1 : Int32)) fun v5 =>
    r33 x0 x1 x2 x3 v5 (x5 + (1 : Int32)) M1))))
set_option maxRecDepth 20000 in
set_option maxHeartbeats 4000000 in
theorem s_X8_replayed_83 {z : Zt} {K : Int32 → Mm → Prop} (hz : Good z RX8 cX8_replayed 10 rX8_replayed (some .int)) (hq : Ret z zI K) {r33 : Nat → Int32 → Int32 → Int32 → Int32 → Int32 → Mm → Option (Int32 × Mm)} (H33 : ∀ (x0 : Nat) (x1 : Int32) (x2 : Int32) (x3 : Int32) (x4 : Int32) (x5 : Int32) (M : Mm), Sim z 33 [(0, .ref x0), (1, .int x1), (2, .int x2), (3, .int x3), (4, .int x4), (5, .int x5)] [] M 0 0 (r33 x0 x1 x2 x3 x4 x5 M) K) : ∀ (x0 : Nat) (x1 : Int32) (x2 : Int32) (x3 : Int32) (x4 : Int32) (x5 : Int32) (y0 : Int32) (y1 : Int32) (y2 : Nat) (M : Mm), Sim z 83 [(0, .ref x0), (1, .int x1), (2, .int x2), (3, .int x3), (4, .int x4), (5, .int x5)] [.int y0, .int y1, .ref y2] M 0 0 (f_X8_replayed_83 r33 x0 x1 x2 x3 x4 x5 y0 y1 y2 M) K := by
  intro x0 x1 x2 x3 x4 x5 y0 y1 y2 M
  unfold f_X8_replayed_83
  refine r_zast hz dX8_replayed_83 ?_
  refine r_nmM (fun M1 => ?_)
  refine r_iload hz dX8_replayed_84 4 rfl ?_
  refine r_aload_n hz dX8_replayed_86 0 rfl ?_
  refine r_getR (j := 31) cl8 hz dX8_replayed_87 (by decide) wm_5_87 rfl (fun q2 => ?_)
  refine r_iload hz dX8_replayed_90 5 rfl ?_
  refine r_zald hz dX8_replayed_92 ?_
  refine r_if_eq (tgt := 100) hz dX8_replayed_93 rfl ?_ ?_
  · refine r_iconst (v := 0) hz dX8_replayed_100 rfl ?_
    refine r_iadd hz dX8_replayed_101 ?_
    refine r_nmi (fun v3 => ?_)
    refine r_istore (lv' := [(4, .int v3), (0, .ref x0), (1, .int x1), (2, .int x2), (3, .int x3), (5, .int x5)]) hz dX8_replayed_102 (by decide) rfl ?_
    refine r_iinc (v := (x5 + (1 : Int32))) (lv' := [(5, .int (x5 + (1 : Int32))), (4, .int v3), (0, .ref x0), (1, .int x1), (2, .int x2), (3, .int x3)]) hz dX8_replayed_104 5 rfl rfl (by decide) rfl ?_
    refine r_goto (tgt := 33) hz dX8_replayed_107 rfl ?_
    refine r_sub [2, 3, 4, 5, 1, 0] rfl ?_
    exact H33 x0 x1 x2 x3 v3 (x5 + (1 : Int32)) M1
  · refine r_iconst (v := 1) hz dX8_replayed_96 rfl ?_
    refine r_goto (tgt := 101) hz dX8_replayed_97 rfl ?_
    refine r_iadd hz dX8_replayed_101 ?_
    refine r_nmi (fun v5 => ?_)
    refine r_istore (lv' := [(4, .int v5), (0, .ref x0), (1, .int x1), (2, .int x2), (3, .int x3), (5, .int x5)]) hz dX8_replayed_102 (by decide) rfl ?_
    refine r_iinc (v := (x5 + (1 : Int32))) (lv' := [(5, .int (x5 + (1 : Int32))), (4, .int v5), (0, .ref x0), (1, .int x1), (2, .int x2), (3, .int x3)]) hz dX8_replayed_104 5 rfl rfl (by decide) rfl ?_
    refine r_goto (tgt := 33) hz dX8_replayed_107 rfl ?_
    refine r_sub [2, 3, 4, 5, 1, 0] rfl ?_
    exact H33 x0 x1 x2 x3 v5 (x5 + (1 : Int32)) M1
def f_X8_replayed_33 : Nat → Nat → Int32 → Int32 → Int32 → Int32 → Int32 → Mm → Option (Int32 × Mm)
  | 0, _, _, _, _, _, _, _ => none
  | n + 1, x0, x1, x2, x3, x4, x5, M =>
    ck (gK M x0 = 8) (bd (f_X8_loanOf x0 x1 (0 : Int32) M) fun v2 M1 =>
    (if v2 < x5 then
      (if ¬ x3 = 0 then
        ck (gK M1 x0 = 8) (bd (f_X8_lotMany x0 x1 x2 M1) fun v4 M3 =>
        f_X8_replayed_146 FU x0 x1 x2 x4 x3 v4 (1 : Int32) M3)
      else
        ck (gK M1 x0 = 8) (bR (gR M1 x0 17) fun q5 => ck (gK M1 q5 = 10 ∧ inb (((1299 : Int32) + ((21 : Int32) * x1)) + x2) (gN M1 q5)) (nm (gI M1 q5 ((((1299 : Int32) + ((21 : Int32) * x1)) + x2)).toNatClampNeg) fun v6 =>
        ck (gK M1 x0 = 8) (bd (f_X8_lotMany x0 x1 x2 M1) fun v8 M7 =>
        f_X8_replayed_146 FU x0 x1 x2 x4 v6 v8 (1 : Int32) M7))))
    else
      ck (gK M1 x0 = 8) (bR (gR M1 x0 17) fun q9 => bd (f_X8_bondAt x1 x5 M1) fun v11 M10 =>
      ck (gK M10 q9 = 10 ∧ inb ((480 : Int32) + v11) (gN M10 q9)) (nm (gI M10 q9 (((480 : Int32) + v11)).toNatClampNeg) fun v12 =>
      ck (gK M10 x0 = 8) (bR (gR M10 x0 31) fun q13 => (if v12 = 0 then
        f_X8_replayed_83 (f_X8_replayed_33 n) x0 x1 x2 x3 x4 x5 (1 : Int32) x5 q13 M10
      else
        (if v12 < x2 then
          f_X8_replayed_83 (f_X8_replayed_33 n) x0 x1 x2 x3 x4 x5 (0 : Int32) x5 q13 M10
        else
          f_X8_replayed_83 (f_X8_replayed_33 n) x0 x1 x2 x3 x4 x5 (1 : Int32) x5 q13 M10)))))))
set_option maxRecDepth 20000 in
set_option maxHeartbeats 4000000 in
theorem s_X8_replayed_33 {z : Zt} {K : Int32 → Mm → Prop} (hz : Good z RX8 cX8_replayed 10 rX8_replayed (some .int)) (hq : Ret z zI K) : ∀ (n : Nat) (x0 : Nat) (x1 : Int32) (x2 : Int32) (x3 : Int32) (x4 : Int32) (x5 : Int32) (M : Mm), Sim z 33 [(0, .ref x0), (1, .int x1), (2, .int x2), (3, .int x3), (4, .int x4), (5, .int x5)] [] M 0 0 (f_X8_replayed_33 n x0 x1 x2 x3 x4 x5 M) K := by
  intro n
  induction n with
  | zero => exact fun _ _ _ _ _ _ _ => r_none
  | succ n ih =>
    intro x0 x1 x2 x3 x4 x5 M
    unfold f_X8_replayed_33
    refine r_iload hz dX8_replayed_33 5 rfl ?_
    refine r_aload_n hz dX8_replayed_35 0 rfl ?_
    refine r_iload_n hz dX8_replayed_36 1 rfl ?_
    refine r_iconst (v := 0) hz dX8_replayed_37 rfl ?_
    refine r_callVi (As := fun _ => [.int x1, .int (0 : Int32)]) cl8 hz (fun _ _ h => t_X8_loanOf _ _ _ _ _ _ h) cal_X8_loanOf dX8_replayed_38 wm_6_68 wm_6_70 wm_p_66 rfl rfl (Nat.le_of_ble_eq_true rfl) ⟨(Nat.le_of_ble_eq_true rfl), (Nat.le_of_ble_eq_true rfl)⟩ ⟨(Nat.le_of_ble_eq_true rfl), (Nat.le_of_ble_eq_true rfl)⟩ (fun v2 M1 => ?_)
    refine r_icmp_gt (tgt := 110) hz dX8_replayed_41 rfl ?_ ?_
    · refine r_iload_n hz dX8_replayed_110 3 rfl ?_
      refine r_if_ne (tgt := 132) hz dX8_replayed_111 rfl ?_ ?_
      · refine r_iload_n hz dX8_replayed_132 3 rfl ?_
        refine r_istore (lv' := [(5, .int x3), (0, .ref x0), (1, .int x1), (2, .int x2), (3, .int x3), (4, .int x4)]) hz dX8_replayed_133 (by decide) rfl ?_
        refine r_aload_n hz dX8_replayed_135 1 rfl ?_
        refine r_iload_n hz dX8_replayed_136 2 rfl ?_
        refine r_iload_n hz dX8_replayed_137 3 rfl ?_
        refine r_callVi (As := fun _ => [.int x1, .int x2]) cl8 hz (fun _ _ h => t_X8_lotMany _ _ _ _ _ _ h) cal_X8_lotMany dX8_replayed_138 wm_7_67 wm_7_69 wm_p_89 rfl rfl (Nat.le_of_ble_eq_true rfl) ⟨(Nat.le_of_ble_eq_true rfl), (Nat.le_of_ble_eq_true rfl)⟩ ⟨(Nat.le_of_ble_eq_true rfl), (Nat.le_of_ble_eq_true rfl)⟩ (fun v4 M3 => ?_)
        refine r_istore (lv' := [(6, .int v4), (5, .int x3), (0, .ref x0), (1, .int x1), (2, .int x2), (3, .int x3), (4, .int x4)]) hz dX8_replayed_141 (by decide) rfl ?_
        refine r_iconst (v := 1) hz dX8_replayed_143 rfl ?_
        refine r_istore (lv' := [(7, .int (1 : Int32)), (6, .int v4), (5, .int x3), (0, .ref x0), (1, .int x1), (2, .int x2), (3, .int x3), (4, .int x4)]) hz dX8_replayed_144 (by decide) rfl ?_
        refine r_sub [3, 4, 5, 7, 2, 1, 0] rfl ?_
        exact s_X8_replayed_146 hz hq FU x0 x1 x2 x4 x3 v4 (1 : Int32) M3
      · refine r_aload_n hz dX8_replayed_114 0 rfl ?_
        refine r_getR (j := 17) cl8 hz dX8_replayed_115 (by decide) wm_5_73 rfl (fun q5 => ?_)
        refine r_sipush (v := 1299) hz dX8_replayed_118 rfl ?_
        refine r_bipush (v := 21) hz dX8_replayed_121 rfl ?_
        refine r_iload_n hz dX8_replayed_123 1 rfl ?_
        refine r_imul hz dX8_replayed_124 ?_
        refine r_iadd hz dX8_replayed_125 ?_
        refine r_iload_n hz dX8_replayed_126 2 rfl ?_
        refine r_iadd hz dX8_replayed_127 ?_
        refine r_iald hz dX8_replayed_128 ?_
        refine r_goto (tgt := 133) hz dX8_replayed_129 rfl ?_
        refine r_nmi (fun v6 => ?_)
        refine r_istore (lv' := [(5, .int v6), (0, .ref x0), (1, .int x1), (2, .int x2), (3, .int x3), (4, .int x4)]) hz dX8_replayed_133 (by decide) rfl ?_
        refine r_aload_n hz dX8_replayed_135 1 rfl ?_
        refine r_iload_n hz dX8_replayed_136 2 rfl ?_
        refine r_iload_n hz dX8_replayed_137 3 rfl ?_
        refine r_callVi (As := fun _ => [.int x1, .int x2]) cl8 hz (fun _ _ h => t_X8_lotMany _ _ _ _ _ _ h) cal_X8_lotMany dX8_replayed_138 wm_7_67 wm_7_69 wm_p_89 rfl rfl (Nat.le_of_ble_eq_true rfl) ⟨(Nat.le_of_ble_eq_true rfl), (Nat.le_of_ble_eq_true rfl)⟩ ⟨(Nat.le_of_ble_eq_true rfl), (Nat.le_of_ble_eq_true rfl)⟩ (fun v8 M7 => ?_)
        refine r_istore (lv' := [(6, .int v8), (5, .int v6), (0, .ref x0), (1, .int x1), (2, .int x2), (3, .int x3), (4, .int x4)]) hz dX8_replayed_141 (by decide) rfl ?_
        refine r_iconst (v := 1) hz dX8_replayed_143 rfl ?_
        refine r_istore (lv' := [(7, .int (1 : Int32)), (6, .int v8), (5, .int v6), (0, .ref x0), (1, .int x1), (2, .int x2), (3, .int x3), (4, .int x4)]) hz dX8_replayed_144 (by decide) rfl ?_
        refine r_sub [3, 4, 5, 7, 2, 1, 0] rfl ?_
        exact s_X8_replayed_146 hz hq FU x0 x1 x2 x4 v6 v8 (1 : Int32) M7
    · refine r_aload_n hz dX8_replayed_44 0 rfl ?_
      refine r_getR (j := 17) cl8 hz dX8_replayed_45 (by decide) wm_5_73 rfl (fun q9 => ?_)
      refine r_sipush (v := 480) hz dX8_replayed_48 rfl ?_
      refine r_iload_n hz dX8_replayed_51 1 rfl ?_
      refine r_iload hz dX8_replayed_52 5 rfl ?_
      refine r_callSi (As := fun _ => [.int x1, .int x5]) hz (fun _ _ h => t_X8_bondAt _ _ _ _ _ h) cal_X8_bondAt dX8_replayed_54 wm_6_72 wm_6_73 rfl rfl (Nat.le_of_ble_eq_true rfl) ⟨(Nat.le_of_ble_eq_true rfl), (Nat.le_of_ble_eq_true rfl)⟩ ⟨(Nat.le_of_ble_eq_true rfl), (Nat.le_of_ble_eq_true rfl)⟩ (fun v11 M10 => ?_)
      refine r_iadd hz dX8_replayed_57 ?_
      refine r_iald hz dX8_replayed_58 ?_
      refine r_nmi (fun v12 => ?_)
      refine r_istore (lv' := [(6, .int v12), (0, .ref x0), (1, .int x1), (2, .int x2), (3, .int x3), (4, .int x4), (5, .int x5)]) hz dX8_replayed_59 (by decide) rfl ?_
      refine r_aload_n hz dX8_replayed_61 1 rfl ?_
      refine r_getR (j := 31) cl8 hz dX8_replayed_62 (by decide) wm_5_87 rfl (fun q13 => ?_)
      refine r_iload hz dX8_replayed_65 6 rfl ?_
      refine r_iload hz dX8_replayed_67 0 rfl ?_
      refine r_if_eq (tgt := 78) hz dX8_replayed_69 rfl ?_ ?_
      · refine r_iconst (v := 1) hz dX8_replayed_78 rfl ?_
        refine r_goto (tgt := 83) hz dX8_replayed_79 rfl ?_
        refine r_sub [1, 2, 3, 4, 5, 6] rfl ?_
        exact s_X8_replayed_83 hz hq ih x0 x1 x2 x3 x4 x5 (1 : Int32) x5 q13 M10
      · refine r_iload hz dX8_replayed_72 0 rfl ?_
        refine r_iload_n hz dX8_replayed_74 3 rfl ?_
        refine r_icmp_lt (tgt := 82) hz dX8_replayed_75 rfl ?_ ?_
        · refine r_iconst (v := 0) hz dX8_replayed_82 rfl ?_
          refine r_sub [1, 2, 3, 4, 5, 6] rfl ?_
          exact s_X8_replayed_83 hz hq ih x0 x1 x2 x3 x4 x5 (0 : Int32) x5 q13 M10
        · refine r_iconst (v := 1) hz dX8_replayed_78 rfl ?_
          refine r_goto (tgt := 83) hz dX8_replayed_79 rfl ?_
          refine r_sub [1, 2, 3, 4, 5, 6] rfl ?_
          exact s_X8_replayed_83 hz hq ih x0 x1 x2 x3 x4 x5 (1 : Int32) x5 q13 M10
def f_X8_replayed (p0 : Nat) (p1 : Int32) (p2 : Int32) (p3 : Int32) (M : Mm) : Option (Int32 × Mm) :=
  ck (gK M p0 = 8) (nm (sI M p0 0 (0 : Int32)) fun M1 =>
  ck (gK M1 p0 = 8) (bd (f_X8_isPassed p0 p1 p2 M1) fun v3 M2 =>
  (if v3 = 0 then
    some ((-1 : Int32), M2)
  else
    (if p3 = 0 then
      f_X8_replayed_33 FU p0 p1 p2 p3 (0 : Int32) (1 : Int32) M2
    else
      bd (f_X8_isWheel p3 M2) fun v5 M4 =>
      (if ¬ v5 = 0 then
        f_X8_replayed_33 FU p0 p1 p2 p3 (0 : Int32) (1 : Int32) M4
      else
        some ((-1 : Int32), M4))))))
set_option maxRecDepth 20000 in
set_option maxHeartbeats 4000000 in
theorem t_X8_replayed (p0 : Nat) (p1 : Int32) (p2 : Int32) (p3 : Int32) (M : Mm) (x : Int32) (M' : Mm) (h : f_X8_replayed p0 p1 p2 p3 M = some (x, M')) : Ctr yX8_replayed cX8_replayed 10 (some .int) rX8_replayed (fun _ => [.ref p0, .int p1, .int p2, .int p3]) M (zI x) M' := by
  refine ctr_of (plainFor_of_name (by decide)) (fun _ => Nat.le_of_ble_eq_true rfl) (fun z hz hin hq => ?_)
  have key : Sim z 0 [(0, .ref p0), (1, .int p1), (2, .int p2), (3, .int p3)] [] M 0 0 (f_X8_replayed p0 p1 p2 p3 M) (fun a b => a = x ∧ b = M') := by
    have hq : Ret z zI (fun a b => a = x ∧ b = M') := fun a b e => by rw [e.1, e.2]; exact hq
    unfold f_X8_replayed
    refine r_aload_n hz dX8_replayed_0 0 rfl ?_
    refine r_iconst (v := 0) hz dX8_replayed_1 rfl ?_
    refine r_putI (j := 0) cl8 hz dX8_replayed_2 (by decide) wm_5_56 (Or.inl rfl) rfl rfl rfl ?_
    refine r_nmM (fun M1 => ?_)
    refine r_aload_n hz dX8_replayed_5 0 rfl ?_
    refine r_iload_n hz dX8_replayed_6 1 rfl ?_
    refine r_iload_n hz dX8_replayed_7 2 rfl ?_
    refine r_callVi (As := fun _ => [.int p1, .int p2]) cl8 hz (fun _ _ h => t_X8_isPassed _ _ _ _ _ _ h) cal_X8_isPassed dX8_replayed_8 wm_7_63 wm_7_65 wm_p_88 rfl rfl (Nat.le_of_ble_eq_true rfl) ⟨(Nat.le_of_ble_eq_true rfl), (Nat.le_of_ble_eq_true rfl)⟩ ⟨(Nat.le_of_ble_eq_true rfl), (Nat.le_of_ble_eq_true rfl)⟩ (fun v3 M2 => ?_)
    refine r_if_eq (tgt := 25) hz dX8_replayed_11 rfl ?_ ?_
    · refine r_iconst (v := -1) hz dX8_replayed_25 rfl ?_
      exact r_iret hz hq dX8_replayed_26 (Nat.le_of_ble_eq_true rfl) (Nat.le_of_ble_eq_true rfl)
    · refine r_iload_n hz dX8_replayed_14 3 rfl ?_
      refine r_if_eq (tgt := 27) hz dX8_replayed_15 rfl ?_ ?_
      · refine r_iconst (v := 0) hz dX8_replayed_27 rfl ?_
        refine r_istore (lv' := [(4, .int (0 : Int32)), (0, .ref p0), (1, .int p1), (2, .int p2), (3, .int p3)]) hz dX8_replayed_28 (by decide) rfl ?_
        refine r_iconst (v := 1) hz dX8_replayed_30 rfl ?_
        refine r_istore (lv' := [(5, .int (1 : Int32)), (4, .int (0 : Int32)), (0, .ref p0), (1, .int p1), (2, .int p2), (3, .int p3)]) hz dX8_replayed_31 (by decide) rfl ?_
        refine r_sub [2, 3, 4, 5, 1, 0] rfl ?_
        exact s_X8_replayed_33 hz hq FU p0 p1 p2 p3 (0 : Int32) (1 : Int32) M2
      · refine r_iload_n hz dX8_replayed_18 3 rfl ?_
        refine r_callSi (As := fun _ => [.int p3]) hz (fun _ _ h => t_X8_isWheel _ _ _ _ h) cal_X8_isWheel dX8_replayed_19 wm_6_195 wm_6_196 rfl rfl (Nat.le_of_ble_eq_true rfl) ⟨(Nat.le_of_ble_eq_true rfl), (Nat.le_of_ble_eq_true rfl)⟩ ⟨(Nat.le_of_ble_eq_true rfl), (Nat.le_of_ble_eq_true rfl)⟩ (fun v5 M4 => ?_)
        refine r_if_ne (tgt := 27) hz dX8_replayed_22 rfl ?_ ?_
        · refine r_iconst (v := 0) hz dX8_replayed_27 rfl ?_
          refine r_istore (lv' := [(4, .int (0 : Int32)), (0, .ref p0), (1, .int p1), (2, .int p2), (3, .int p3)]) hz dX8_replayed_28 (by decide) rfl ?_
          refine r_iconst (v := 1) hz dX8_replayed_30 rfl ?_
          refine r_istore (lv' := [(5, .int (1 : Int32)), (4, .int (0 : Int32)), (0, .ref p0), (1, .int p1), (2, .int p2), (3, .int p3)]) hz dX8_replayed_31 (by decide) rfl ?_
          refine r_sub [2, 3, 4, 5, 1, 0] rfl ?_
          exact s_X8_replayed_33 hz hq FU p0 p1 p2 p3 (0 : Int32) (1 : Int32) M4
        · refine r_iconst (v := -1) hz dX8_replayed_25 rfl ?_
          exact r_iret hz hq dX8_replayed_26 (Nat.le_of_ble_eq_true rfl) (Nat.le_of_ble_eq_true rfl)
  exact key x M' h ⟨rfl, rfl⟩
theorem dX8_adds_0 : decode cX8_adds 0 = .ok (.aload_n 0, 1) := by decide +kernel
theorem dX8_adds_1 : decode cX8_adds 1 = .ok (.iconst 0, 1) := by decide +kernel
theorem dX8_adds_2 : decode cX8_adds 2 = .ok (.putfield 391, 3) := by decide +kernel
theorem dX8_adds_5 : decode cX8_adds 5 = .ok (.aload_n 0, 1) := by decide +kernel
theorem dX8_adds_6 : decode cX8_adds 6 = .ok (.iconst 0, 1) := by decide +kernel
theorem dX8_adds_7 : decode cX8_adds 7 = .ok (.putfield 394, 3) := by decide +kernel
theorem dX8_adds_10 : decode cX8_adds 10 = .ok (.iconst 0, 1) := by decide +kernel
theorem dX8_adds_11 : decode cX8_adds 11 = .ok (.istore_n 2, 1) := by decide +kernel
theorem dX8_adds_12 : decode cX8_adds 12 = .ok (.iload_n 2, 1) := by decide +kernel
theorem dX8_adds_13 : decode cX8_adds 13 = .ok (.aload_n 0, 1) := by decide +kernel
theorem dX8_adds_14 : decode cX8_adds 14 = .ok (.getfield 13, 3) := by decide +kernel
theorem dX8_adds_17 : decode cX8_adds 17 = .ok (.iconst 0, 1) := by decide +kernel
theorem dX8_adds_18 : decode cX8_adds 18 = .ok (.iaload, 1) := by decide +kernel
theorem dX8_adds_19 : decode cX8_adds 19 = .ok (.if_icmp .ge 93, 3) := by decide +kernel
theorem dX8_adds_22 : decode cX8_adds 22 = .ok (.iconst 1, 1) := by decide +kernel
theorem dX8_adds_23 : decode cX8_adds 23 = .ok (.istore_n 3, 1) := by decide +kernel
theorem dX8_adds_24 : decode cX8_adds 24 = .ok (.iload_n 3, 1) := by decide +kernel
theorem dX8_adds_25 : decode cX8_adds 25 = .ok (.aload_n 0, 1) := by decide +kernel
theorem dX8_adds_26 : decode cX8_adds 26 = .ok (.iload_n 2, 1) := by decide +kernel
theorem dX8_adds_27 : decode cX8_adds 27 = .ok (.iconst 0, 1) := by decide +kernel
theorem dX8_adds_28 : decode cX8_adds 28 = .ok (.invokevirtual 225, 3) := by decide +kernel
theorem dX8_adds_31 : decode cX8_adds 31 = .ok (.if_icmp .gt 75, 3) := by decide +kernel
theorem dX8_adds_34 : decode cX8_adds 34 = .ok (.iload_n 2, 1) := by decide +kernel
theorem dX8_adds_35 : decode cX8_adds 35 = .ok (.iload_n 3, 1) := by decide +kernel
theorem dX8_adds_36 : decode cX8_adds 36 = .ok (.invokestatic 229, 3) := by decide +kernel
theorem dX8_adds_39 : decode cX8_adds 39 = .ok (.istore 4, 2) := by decide +kernel
theorem dX8_adds_41 : decode cX8_adds 41 = .ok (.aload_n 0, 1) := by decide +kernel
theorem dX8_adds_42 : decode cX8_adds 42 = .ok (.getfield 20, 3) := by decide +kernel
theorem dX8_adds_45 : decode cX8_adds 45 = .ok (.sipush 240, 3) := by decide +kernel
theorem dX8_adds_48 : decode cX8_adds 48 = .ok (.iload 4, 2) := by decide +kernel
theorem dX8_adds_50 : decode cX8_adds 50 = .ok (.iadd, 1) := by decide +kernel
theorem dX8_adds_51 : decode cX8_adds 51 = .ok (.iaload, 1) := by decide +kernel
theorem dX8_adds_52 : decode cX8_adds 52 = .ok (.iload_n 1, 1) := by decide +kernel
theorem dX8_adds_53 : decode cX8_adds 53 = .ok (.iconst 1, 1) := by decide +kernel
theorem dX8_adds_54 : decode cX8_adds 54 = .ok (.iadd, 1) := by decide +kernel
theorem dX8_adds_55 : decode cX8_adds 55 = .ok (.if_icmp .ne 45, 3) := by decide +kernel
theorem dX8_adds_58 : decode cX8_adds 58 = .ok (.aload_n 0, 1) := by decide +kernel
theorem dX8_adds_59 : decode cX8_adds 59 = .ok (.getfield 20, 3) := by decide +kernel
theorem dX8_adds_62 : decode cX8_adds 62 = .ok (.iconst 0, 1) := by decide +kernel
theorem dX8_adds_63 : decode cX8_adds 63 = .ok (.iload 4, 2) := by decide +kernel
theorem dX8_adds_65 : decode cX8_adds 65 = .ok (.iadd, 1) := by decide +kernel
theorem dX8_adds_66 : decode cX8_adds 66 = .ok (.iaload, 1) := by decide +kernel
theorem dX8_adds_67 : decode cX8_adds 67 = .ok (.ifCond .eq 33, 3) := by decide +kernel
theorem dX8_adds_70 : decode cX8_adds 70 = .ok (.aload_n 0, 1) := by decide +kernel
theorem dX8_adds_71 : decode cX8_adds 71 = .ok (.dup, 1) := by decide +kernel
theorem dX8_adds_72 : decode cX8_adds 72 = .ok (.getfield 391, 3) := by decide +kernel
theorem dX8_adds_75 : decode cX8_adds 75 = .ok (.aload_n 0, 1) := by decide +kernel
theorem dX8_adds_76 : decode cX8_adds 76 = .ok (.getfield 20, 3) := by decide +kernel
theorem dX8_adds_79 : decode cX8_adds 79 = .ok (.sipush 480, 3) := by decide +kernel
theorem dX8_adds_82 : decode cX8_adds 82 = .ok (.iload 4, 2) := by decide +kernel
theorem dX8_adds_84 : decode cX8_adds 84 = .ok (.iadd, 1) := by decide +kernel
theorem dX8_adds_85 : decode cX8_adds 85 = .ok (.iaload, 1) := by decide +kernel
theorem dX8_adds_86 : decode cX8_adds 86 = .ok (.iadd, 1) := by decide +kernel
theorem dX8_adds_87 : decode cX8_adds 87 = .ok (.putfield 391, 3) := by decide +kernel
theorem dX8_adds_90 : decode cX8_adds 90 = .ok (.aload_n 0, 1) := by decide +kernel
theorem dX8_adds_91 : decode cX8_adds 91 = .ok (.dup, 1) := by decide +kernel
theorem dX8_adds_92 : decode cX8_adds 92 = .ok (.getfield 394, 3) := by decide +kernel
theorem dX8_adds_95 : decode cX8_adds 95 = .ok (.iconst 1, 1) := by decide +kernel
theorem dX8_adds_96 : decode cX8_adds 96 = .ok (.iadd, 1) := by decide +kernel
theorem dX8_adds_97 : decode cX8_adds 97 = .ok (.putfield 394, 3) := by decide +kernel
theorem dX8_adds_100 : decode cX8_adds 100 = .ok (.iinc 3 1, 3) := by decide +kernel
theorem dX8_adds_103 : decode cX8_adds 103 = .ok (.goto (-79), 3) := by decide +kernel
theorem dX8_adds_106 : decode cX8_adds 106 = .ok (.iinc 2 1, 3) := by decide +kernel
theorem dX8_adds_109 : decode cX8_adds 109 = .ok (.goto (-97), 3) := by decide +kernel
theorem dX8_adds_112 : decode cX8_adds 112 = .ok (.return_, 1) := by decide +kernel
abbrev rX8_adds : Room := { frames := 1, cells := 0, slots := 0, locals := 22 }
theorem cal_X8_adds : CalOk yX8_adds cX8_adds 5 none 1 := ⟨wm_7_90, wm_1_9, by decide, by decide, by decide +kernel⟩
def f_X8_adds_24 (r12 : Nat → Int32 → Int32 → Mm → Option (Unit × Mm)) : Nat → Nat → Int32 → Int32 → Int32 → Mm → Option (Unit × Mm)
  | 0, _, _, _, _, _ => none
  | n + 1, x0, x1, x2, x3, M =>
    ck (gK M x0 = 8) (bd (f_X8_loanOf x0 x2 (0 : Int32) M) fun v2 M1 =>
    (if v2 < x3 then
      r12 x0 x1 (x2 + (1 : Int32)) M1
    else
      bd (f_X8_bondAt x2 x3 M1) fun v5 M4 =>
      ck (gK M4 x0 = 8) (bR (gR M4 x0 17) fun q6 => ck (gK M4 q6 = 10 ∧ inb ((240 : Int32) + v5) (gN M4 q6)) ((if ¬ (gI M4 q6 (((240 : Int32) + v5)).toNatClampNeg) = (x1 + (1 : Int32)) then
        f_X8_adds_24 r12 n x0 x1 x2 (x3 + (1 : Int32)) M4
      else
        ck (gK M4 x0 = 8) (bR (gR M4 x0 17) fun q8 => ck (gK M4 q8 = 10 ∧ inb ((0 : Int32) + v5) (gN M4 q8)) ((if (gI M4 q8 (((0 : Int32) + v5)).toNatClampNeg) = 0 then
          f_X8_adds_24 r12 n x0 x1 x2 (x3 + (1 : Int32)) M4
        else
          ck (gK M4 x0 = 8) (ck (gK M4 x0 = 8) (bR (gR M4 x0 17) fun q10 => ck (gK M4 q10 = 10 ∧ inb ((480 : Int32) + v5) (gN M4 q10)) (ck (gK M4 x0 = 8) (nm (sI M4 x0 32 ((gI M4 x0 32) + (gI M4 q10 (((480 : Int32) + v5)).toNatClampNeg))) fun M11 =>
          ck (gK M11 x0 = 8) (ck (gK M11 x0 = 8) (nm (sI M11 x0 33 ((gI M11 x0 33) + (1 : Int32))) fun M12 =>
          f_X8_adds_24 r12 n x0 x1 x2 (x3 + (1 : Int32)) M12))))))))))))))
set_option maxRecDepth 20000 in
set_option maxHeartbeats 4000000 in
theorem s_X8_adds_24 {z : Zt} {K : Unit → Mm → Prop} (hz : Good z RX8 cX8_adds 5 rX8_adds none) (hq : Ret z zU K) {r12 : Nat → Int32 → Int32 → Mm → Option (Unit × Mm)} (H12 : ∀ (x0 : Nat) (x1 : Int32) (x2 : Int32) (M : Mm), Sim z 12 [(0, .ref x0), (1, .int x1), (2, .int x2)] [] M 0 0 (r12 x0 x1 x2 M) K) : ∀ (n : Nat) (x0 : Nat) (x1 : Int32) (x2 : Int32) (x3 : Int32) (M : Mm), Sim z 24 [(0, .ref x0), (1, .int x1), (2, .int x2), (3, .int x3)] [] M 0 0 (f_X8_adds_24 r12 n x0 x1 x2 x3 M) K := by
  intro n
  induction n with
  | zero => exact fun _ _ _ _ _ => r_none
  | succ n ih =>
    intro x0 x1 x2 x3 M
    unfold f_X8_adds_24
    refine r_iload_n hz dX8_adds_24 3 rfl ?_
    refine r_aload_n hz dX8_adds_25 0 rfl ?_
    refine r_iload_n hz dX8_adds_26 2 rfl ?_
    refine r_iconst (v := 0) hz dX8_adds_27 rfl ?_
    refine r_callVi (As := fun _ => [.int x2, .int (0 : Int32)]) cl8 hz (fun _ _ h => t_X8_loanOf _ _ _ _ _ _ h) cal_X8_loanOf dX8_adds_28 wm_6_68 wm_6_70 wm_p_66 rfl rfl (Nat.le_of_ble_eq_true rfl) ⟨(Nat.le_of_ble_eq_true rfl), (Nat.le_of_ble_eq_true rfl)⟩ ⟨(Nat.le_of_ble_eq_true rfl), (Nat.le_of_ble_eq_true rfl)⟩ (fun v2 M1 => ?_)
    refine r_icmp_gt (tgt := 106) hz dX8_adds_31 rfl ?_ ?_
    · refine r_iinc (v := (x2 + (1 : Int32))) (lv' := [(2, .int (x2 + (1 : Int32))), (0, .ref x0), (1, .int x1), (3, .int x3)]) hz dX8_adds_106 2 rfl rfl (by decide) rfl ?_
      refine r_goto (tgt := 12) hz dX8_adds_109 rfl ?_
      refine r_sub [1, 2, 0] rfl ?_
      exact H12 x0 x1 (x2 + (1 : Int32)) M1
    · refine r_iload_n hz dX8_adds_34 2 rfl ?_
      refine r_iload_n hz dX8_adds_35 3 rfl ?_
      refine r_callSi (As := fun _ => [.int x2, .int x3]) hz (fun _ _ h => t_X8_bondAt _ _ _ _ _ h) cal_X8_bondAt dX8_adds_36 wm_6_72 wm_6_73 rfl rfl (Nat.le_of_ble_eq_true rfl) ⟨(Nat.le_of_ble_eq_true rfl), (Nat.le_of_ble_eq_true rfl)⟩ ⟨(Nat.le_of_ble_eq_true rfl), (Nat.le_of_ble_eq_true rfl)⟩ (fun v5 M4 => ?_)
      refine r_istore (lv' := [(4, .int v5), (0, .ref x0), (1, .int x1), (2, .int x2), (3, .int x3)]) hz dX8_adds_39 (by decide) rfl ?_
      refine r_aload_n hz dX8_adds_41 1 rfl ?_
      refine r_getR (j := 17) cl8 hz dX8_adds_42 (by decide) wm_5_73 rfl (fun q6 => ?_)
      refine r_sipush (v := 240) hz dX8_adds_45 rfl ?_
      refine r_iload hz dX8_adds_48 0 rfl ?_
      refine r_iadd hz dX8_adds_50 ?_
      refine r_iald hz dX8_adds_51 ?_
      refine r_iload_n hz dX8_adds_52 2 rfl ?_
      refine r_iconst (v := 1) hz dX8_adds_53 rfl ?_
      refine r_iadd hz dX8_adds_54 ?_
      refine r_icmp_ne (tgt := 100) hz dX8_adds_55 rfl ?_ ?_
      · refine r_iinc (v := (x3 + (1 : Int32))) (lv' := [(3, .int (x3 + (1 : Int32))), (4, .int v5), (0, .ref x0), (1, .int x1), (2, .int x2)]) hz dX8_adds_100 4 rfl rfl (by decide) rfl ?_
        refine r_goto (tgt := 24) hz dX8_adds_103 rfl ?_
        refine r_sub [2, 3, 4, 0] rfl ?_
        exact ih x0 x1 x2 (x3 + (1 : Int32)) M4
      · refine r_aload_n hz dX8_adds_58 1 rfl ?_
        refine r_getR (j := 17) cl8 hz dX8_adds_59 (by decide) wm_5_73 rfl (fun q8 => ?_)
        refine r_iconst (v := 0) hz dX8_adds_62 rfl ?_
        refine r_iload hz dX8_adds_63 0 rfl ?_
        refine r_iadd hz dX8_adds_65 ?_
        refine r_iald hz dX8_adds_66 ?_
        refine r_if_eq (tgt := 100) hz dX8_adds_67 rfl ?_ ?_
        · refine r_iinc (v := (x3 + (1 : Int32))) (lv' := [(3, .int (x3 + (1 : Int32))), (4, .int v5), (0, .ref x0), (1, .int x1), (2, .int x2)]) hz dX8_adds_100 4 rfl rfl (by decide) rfl ?_
          refine r_goto (tgt := 24) hz dX8_adds_103 rfl ?_
          refine r_sub [2, 3, 4, 0] rfl ?_
          exact ih x0 x1 x2 (x3 + (1 : Int32)) M4
        · refine r_aload_n hz dX8_adds_70 1 rfl ?_
          refine r_dup hz dX8_adds_71 rfl ?_
          refine r_getI (j := 32) cl8 hz dX8_adds_72 (by decide) wm_5_88 rfl ?_
          refine r_aload_n hz dX8_adds_75 1 rfl ?_
          refine r_getR (j := 17) cl8 hz dX8_adds_76 (by decide) wm_5_73 rfl (fun q10 => ?_)
          refine r_sipush (v := 480) hz dX8_adds_79 rfl ?_
          refine r_iload hz dX8_adds_82 0 rfl ?_
          refine r_iadd hz dX8_adds_84 ?_
          refine r_iald hz dX8_adds_85 ?_
          refine r_iadd hz dX8_adds_86 ?_
          refine r_putI (j := 32) cl8 hz dX8_adds_87 (by decide) wm_5_88 (Or.inl rfl) rfl rfl rfl ?_
          refine r_nmM (fun M11 => ?_)
          refine r_aload_n hz dX8_adds_90 1 rfl ?_
          refine r_dup hz dX8_adds_91 rfl ?_
          refine r_getI (j := 33) cl8 hz dX8_adds_92 (by decide) wm_5_89 rfl ?_
          refine r_iconst (v := 1) hz dX8_adds_95 rfl ?_
          refine r_iadd hz dX8_adds_96 ?_
          refine r_putI (j := 33) cl8 hz dX8_adds_97 (by decide) wm_5_89 (Or.inl rfl) rfl rfl rfl ?_
          refine r_nmM (fun M12 => ?_)
          refine r_iinc (v := (x3 + (1 : Int32))) (lv' := [(3, .int (x3 + (1 : Int32))), (4, .int v5), (0, .ref x0), (1, .int x1), (2, .int x2)]) hz dX8_adds_100 4 rfl rfl (by decide) rfl ?_
          refine r_goto (tgt := 24) hz dX8_adds_103 rfl ?_
          refine r_sub [2, 3, 4, 0] rfl ?_
          exact ih x0 x1 x2 (x3 + (1 : Int32)) M12
def f_X8_adds_12 : Nat → Nat → Int32 → Int32 → Mm → Option (Unit × Mm)
  | 0, _, _, _, _ => none
  | n + 1, x0, x1, x2, M =>
    ck (gK M x0 = 8) (bR (gR M x0 11) fun q1 => ck (gK M q1 = 10 ∧ inb (0 : Int32) (gN M q1)) ((if (gI M q1 ((0 : Int32)).toNatClampNeg) ≤ x2 then
      some ((), M)
    else
      f_X8_adds_24 (f_X8_adds_12 n) FU x0 x1 x2 (1 : Int32) M)))
set_option maxRecDepth 20000 in
set_option maxHeartbeats 4000000 in
theorem s_X8_adds_12 {z : Zt} {K : Unit → Mm → Prop} (hz : Good z RX8 cX8_adds 5 rX8_adds none) (hq : Ret z zU K) : ∀ (n : Nat) (x0 : Nat) (x1 : Int32) (x2 : Int32) (M : Mm), Sim z 12 [(0, .ref x0), (1, .int x1), (2, .int x2)] [] M 0 0 (f_X8_adds_12 n x0 x1 x2 M) K := by
  intro n
  induction n with
  | zero => exact fun _ _ _ _ => r_none
  | succ n ih =>
    intro x0 x1 x2 M
    unfold f_X8_adds_12
    refine r_iload_n hz dX8_adds_12 2 rfl ?_
    refine r_aload_n hz dX8_adds_13 0 rfl ?_
    refine r_getR (j := 11) cl8 hz dX8_adds_14 (by decide) wm_5_67 rfl (fun q1 => ?_)
    refine r_iconst (v := 0) hz dX8_adds_17 rfl ?_
    refine r_iald hz dX8_adds_18 ?_
    refine r_icmp_ge (tgt := 112) hz dX8_adds_19 rfl ?_ ?_
    · exact r_vret hz hq dX8_adds_112 (Nat.le_of_ble_eq_true rfl) (Nat.le_of_ble_eq_true rfl)
    · refine r_iconst (v := 1) hz dX8_adds_22 rfl ?_
      refine r_istore_n (lv' := [(3, .int (1 : Int32)), (0, .ref x0), (1, .int x1), (2, .int x2)]) hz dX8_adds_23 (by decide) rfl ?_
      refine r_sub [1, 2, 3, 0] rfl ?_
      exact s_X8_adds_24 hz hq ih FU x0 x1 x2 (1 : Int32) M
def f_X8_adds (p0 : Nat) (p1 : Int32) (M : Mm) : Option (Unit × Mm) :=
  ck (gK M p0 = 8) (nm (sI M p0 32 (0 : Int32)) fun M1 =>
  ck (gK M1 p0 = 8) (nm (sI M1 p0 33 (0 : Int32)) fun M2 =>
  f_X8_adds_12 FU p0 p1 (0 : Int32) M2))
set_option maxRecDepth 20000 in
set_option maxHeartbeats 4000000 in
theorem t_X8_adds (p0 : Nat) (p1 : Int32) (M : Mm) (x : Unit) (M' : Mm) (h : f_X8_adds p0 p1 M = some (x, M')) : Ctr yX8_adds cX8_adds 5 none rX8_adds (fun _ => [.ref p0, .int p1]) M (zU x) M' := by
  refine ctr_of (plainFor_of_name (by decide)) (fun _ => Nat.le_of_ble_eq_true rfl) (fun z hz hin hq => ?_)
  have key : Sim z 0 [(0, .ref p0), (1, .int p1)] [] M 0 0 (f_X8_adds p0 p1 M) (fun a b => a = x ∧ b = M') := by
    have hq : Ret z zU (fun a b => a = x ∧ b = M') := fun a b e => by rw [e.1, e.2]; exact hq
    unfold f_X8_adds
    refine r_aload_n hz dX8_adds_0 0 rfl ?_
    refine r_iconst (v := 0) hz dX8_adds_1 rfl ?_
    refine r_putI (j := 32) cl8 hz dX8_adds_2 (by decide) wm_5_88 (Or.inl rfl) rfl rfl rfl ?_
    refine r_nmM (fun M1 => ?_)
    refine r_aload_n hz dX8_adds_5 0 rfl ?_
    refine r_iconst (v := 0) hz dX8_adds_6 rfl ?_
    refine r_putI (j := 33) cl8 hz dX8_adds_7 (by decide) wm_5_89 (Or.inl rfl) rfl rfl rfl ?_
    refine r_nmM (fun M2 => ?_)
    refine r_iconst (v := 0) hz dX8_adds_10 rfl ?_
    refine r_istore_n (lv' := [(2, .int (0 : Int32)), (0, .ref p0), (1, .int p1)]) hz dX8_adds_11 (by decide) rfl ?_
    refine r_sub [1, 2, 0] rfl ?_
    exact s_X8_adds_12 hz hq FU p0 p1 (0 : Int32) M2
  exact key x M' h ⟨rfl, rfl⟩
theorem dX8_mean_0 : decode cX8_mean 0 = .ok (.aload_n 0, 1) := by decide +kernel
theorem dX8_mean_1 : decode cX8_mean 1 = .ok (.iconst 0, 1) := by decide +kernel
theorem dX8_mean_2 : decode cX8_mean 2 = .ok (.putfield 46, 3) := by decide +kernel
theorem dX8_mean_5 : decode cX8_mean 5 = .ok (.aload_n 0, 1) := by decide +kernel
theorem dX8_mean_6 : decode cX8_mean 6 = .ok (.iload_n 1, 1) := by decide +kernel
theorem dX8_mean_7 : decode cX8_mean 7 = .ok (.invokevirtual 244, 3) := by decide +kernel
theorem dX8_mean_10 : decode cX8_mean 10 = .ok (.ifCond .ne 7, 3) := by decide +kernel
theorem dX8_mean_13 : decode cX8_mean 13 = .ok (.ldc2_w 335, 3) := by decide +kernel
theorem dX8_mean_16 : decode cX8_mean 16 = .ok (.lreturn, 1) := by decide +kernel
theorem dX8_mean_17 : decode cX8_mean 17 = .ok (.aload_n 0, 1) := by decide +kernel
theorem dX8_mean_18 : decode cX8_mean 18 = .ok (.iload_n 1, 1) := by decide +kernel
theorem dX8_mean_19 : decode cX8_mean 19 = .ok (.invokevirtual 397, 3) := by decide +kernel
theorem dX8_mean_22 : decode cX8_mean 22 = .ok (.aload_n 0, 1) := by decide +kernel
theorem dX8_mean_23 : decode cX8_mean 23 = .ok (.getfield 394, 3) := by decide +kernel
theorem dX8_mean_26 : decode cX8_mean 26 = .ok (.ifCond .ne 9, 3) := by decide +kernel
theorem dX8_mean_29 : decode cX8_mean 29 = .ok (.ldc2_w 375, 3) := by decide +kernel
theorem dX8_mean_32 : decode cX8_mean 32 = .ok (.goto 17, 3) := by decide +kernel
theorem dX8_mean_35 : decode cX8_mean 35 = .ok (.aload_n 0, 1) := by decide +kernel
theorem dX8_mean_36 : decode cX8_mean 36 = .ok (.aload_n 0, 1) := by decide +kernel
theorem dX8_mean_37 : decode cX8_mean 37 = .ok (.getfield 391, 3) := by decide +kernel
theorem dX8_mean_40 : decode cX8_mean 40 = .ok (.i2l, 1) := by decide +kernel
theorem dX8_mean_41 : decode cX8_mean 41 = .ok (.aload_n 0, 1) := by decide +kernel
theorem dX8_mean_42 : decode cX8_mean 42 = .ok (.getfield 394, 3) := by decide +kernel
theorem dX8_mean_45 : decode cX8_mean 45 = .ok (.i2l, 1) := by decide +kernel
theorem dX8_mean_46 : decode cX8_mean 46 = .ok (.invokevirtual 344, 3) := by decide +kernel
theorem dX8_mean_49 : decode cX8_mean 49 = .ok (.lreturn, 1) := by decide +kernel
abbrev rX8_mean : Room := { frames := 2, cells := 0, slots := 0, locals := 46 }
theorem cal_X8_mean : CalOk yX8_mean cX8_mean 2 (some .long) 1 := ⟨wm_7_86, wm_1_9, by decide, by decide, by decide +kernel⟩
def f_X8_mean (p0 : Nat) (p1 : Int32) (M : Mm) : Option (Int64 × Mm) :=
  ck (gK M p0 = 8) (nm (sI M p0 0 (0 : Int32)) fun M1 =>
  ck (gK M1 p0 = 8) (bd (f_X8_isHolder p0 p1 M1) fun v3 M2 =>
  (if ¬ v3 = 0 then
    ck (gK M2 p0 = 8) (bd (f_X8_adds p0 p1 M2) fun _ M4 =>
    ck (gK M4 p0 = 8) ((if ¬ (gI M4 p0 33) = 0 then
      ck (gK M4 p0 = 8) (ck (gK M4 p0 = 8) (ck (gK M4 p0 = 8) (bd (f_X8_least p0 ((gI M4 p0 32)).toInt64 ((gI M4 p0 33)).toInt64 M4) fun v6 M5 =>
      some (v6, M5))))
    else
      some ((-2 : Int64), M4))))
  else
    some ((-1 : Int64), M2))))
set_option maxRecDepth 20000 in
set_option maxHeartbeats 4000000 in
theorem t_X8_mean (p0 : Nat) (p1 : Int32) (M : Mm) (x : Int64) (M' : Mm) (h : f_X8_mean p0 p1 M = some (x, M')) : Ctr yX8_mean cX8_mean 2 (some .long) rX8_mean (fun _ => [.ref p0, .int p1]) M (zL x) M' := by
  refine ctr_of (plainFor_of_name (by decide)) (fun _ => Nat.le_of_ble_eq_true rfl) (fun z hz hin hq => ?_)
  have key : Sim z 0 [(0, .ref p0), (1, .int p1)] [] M 0 0 (f_X8_mean p0 p1 M) (fun a b => a = x ∧ b = M') := by
    have hq : Ret z zL (fun a b => a = x ∧ b = M') := fun a b e => by rw [e.1, e.2]; exact hq
    unfold f_X8_mean
    refine r_aload_n hz dX8_mean_0 0 rfl ?_
    refine r_iconst (v := 0) hz dX8_mean_1 rfl ?_
    refine r_putI (j := 0) cl8 hz dX8_mean_2 (by decide) wm_5_56 (Or.inl rfl) rfl rfl rfl ?_
    refine r_nmM (fun M1 => ?_)
    refine r_aload_n hz dX8_mean_5 0 rfl ?_
    refine r_iload_n hz dX8_mean_6 1 rfl ?_
    refine r_callVi (As := fun _ => [.int p1]) cl8 hz (fun _ _ h => t_X8_isHolder _ _ _ _ _ h) cal_X8_isHolder dX8_mean_7 wm_6_88 wm_6_90 wm_p_68 rfl rfl (Nat.le_of_ble_eq_true rfl) ⟨(Nat.le_of_ble_eq_true rfl), (Nat.le_of_ble_eq_true rfl)⟩ ⟨(Nat.le_of_ble_eq_true rfl), (Nat.le_of_ble_eq_true rfl)⟩ (fun v3 M2 => ?_)
    refine r_if_ne (tgt := 17) hz dX8_mean_10 rfl ?_ ?_
    · refine r_aload_n hz dX8_mean_17 0 rfl ?_
      refine r_iload_n hz dX8_mean_18 1 rfl ?_
      refine r_callVv (As := fun _ => [.int p1]) cl8 hz (fun _ _ h => t_X8_adds _ _ _ _ _ h) cal_X8_adds dX8_mean_19 wm_7_87 wm_7_89 wm_p_91 rfl rfl (Nat.le_of_ble_eq_true rfl) ⟨(Nat.le_of_ble_eq_true rfl), (Nat.le_of_ble_eq_true rfl)⟩ ⟨(Nat.le_of_ble_eq_true rfl), (Nat.le_of_ble_eq_true rfl)⟩ (fun _ M4 => ?_)
      refine r_aload_n hz dX8_mean_22 0 rfl ?_
      refine r_getI (j := 33) cl8 hz dX8_mean_23 (by decide) wm_5_89 rfl ?_
      refine r_if_ne (tgt := 35) hz dX8_mean_26 rfl ?_ ?_
      · refine r_aload_n hz dX8_mean_35 0 rfl ?_
        refine r_aload_n hz dX8_mean_36 0 rfl ?_
        refine r_getI (j := 32) cl8 hz dX8_mean_37 (by decide) wm_5_88 rfl ?_
        refine r_i2l hz dX8_mean_40 ?_
        refine r_aload_n hz dX8_mean_41 0 rfl ?_
        refine r_getI (j := 33) cl8 hz dX8_mean_42 (by decide) wm_5_89 rfl ?_
        refine r_i2l hz dX8_mean_45 ?_
        refine r_callVl (As := fun _ => [.long ((gI M4 p0 32)).toInt64, .long ((gI M4 p0 33)).toInt64]) cl8 hz (fun _ _ h => t_X8_least _ _ _ _ _ _ h) cal_X8_least dX8_mean_46 wm_7_1 wm_7_3 wm_p_86 rfl rfl (Nat.le_of_ble_eq_true rfl) ⟨(Nat.le_of_ble_eq_true rfl), (Nat.le_of_ble_eq_true rfl)⟩ ⟨(Nat.le_of_ble_eq_true rfl), (Nat.le_of_ble_eq_true rfl)⟩ (fun v6 M5 => ?_)
        exact r_lret hz hq dX8_mean_49 (Nat.le_of_ble_eq_true rfl) (Nat.le_of_ble_eq_true rfl)
      · refine r_ldc2 (v := -2) hz dX8_mean_29 wm_7_26 ?_
        refine r_goto (tgt := 49) hz dX8_mean_32 rfl ?_
        exact r_lret hz hq dX8_mean_49 (Nat.le_of_ble_eq_true rfl) (Nat.le_of_ble_eq_true rfl)
    · refine r_ldc2 (v := -1) hz dX8_mean_13 wm_6_224 ?_
      exact r_lret hz hq dX8_mean_16 (Nat.le_of_ble_eq_true rfl) (Nat.le_of_ble_eq_true rfl)
  exact key x M' h ⟨rfl, rfl⟩
theorem dX8_aheadOf_0 : decode cX8_aheadOf 0 = .ok (.aload_n 0, 1) := by decide +kernel
theorem dX8_aheadOf_1 : decode cX8_aheadOf 1 = .ok (.iload_n 1, 1) := by decide +kernel
theorem dX8_aheadOf_2 : decode cX8_aheadOf 2 = .ok (.invokevirtual 397, 3) := by decide +kernel
theorem dX8_aheadOf_5 : decode cX8_aheadOf 5 = .ok (.aload_n 0, 1) := by decide +kernel
theorem dX8_aheadOf_6 : decode cX8_aheadOf 6 = .ok (.getfield 391, 3) := by decide +kernel
theorem dX8_aheadOf_9 : decode cX8_aheadOf 9 = .ok (.istore_n 2, 1) := by decide +kernel
theorem dX8_aheadOf_10 : decode cX8_aheadOf 10 = .ok (.aload_n 0, 1) := by decide +kernel
theorem dX8_aheadOf_11 : decode cX8_aheadOf 11 = .ok (.getfield 394, 3) := by decide +kernel
theorem dX8_aheadOf_14 : decode cX8_aheadOf 14 = .ok (.istore_n 3, 1) := by decide +kernel
theorem dX8_aheadOf_15 : decode cX8_aheadOf 15 = .ok (.iconst 0, 1) := by decide +kernel
theorem dX8_aheadOf_16 : decode cX8_aheadOf 16 = .ok (.istore 4, 2) := by decide +kernel
theorem dX8_aheadOf_18 : decode cX8_aheadOf 18 = .ok (.iconst 0, 1) := by decide +kernel
theorem dX8_aheadOf_19 : decode cX8_aheadOf 19 = .ok (.istore 5, 2) := by decide +kernel
theorem dX8_aheadOf_21 : decode cX8_aheadOf 21 = .ok (.iload 5, 2) := by decide +kernel
theorem dX8_aheadOf_23 : decode cX8_aheadOf 23 = .ok (.aload_n 0, 1) := by decide +kernel
theorem dX8_aheadOf_24 : decode cX8_aheadOf 24 = .ok (.getfield 13, 3) := by decide +kernel
theorem dX8_aheadOf_27 : decode cX8_aheadOf 27 = .ok (.iconst 1, 1) := by decide +kernel
theorem dX8_aheadOf_28 : decode cX8_aheadOf 28 = .ok (.iaload, 1) := by decide +kernel
theorem dX8_aheadOf_29 : decode cX8_aheadOf 29 = .ok (.if_icmp .ge 63, 3) := by decide +kernel
theorem dX8_aheadOf_32 : decode cX8_aheadOf 32 = .ok (.aload_n 0, 1) := by decide +kernel
theorem dX8_aheadOf_33 : decode cX8_aheadOf 33 = .ok (.iload 5, 2) := by decide +kernel
theorem dX8_aheadOf_35 : decode cX8_aheadOf 35 = .ok (.invokevirtual 397, 3) := by decide +kernel
theorem dX8_aheadOf_38 : decode cX8_aheadOf 38 = .ok (.aload_n 0, 1) := by decide +kernel
theorem dX8_aheadOf_39 : decode cX8_aheadOf 39 = .ok (.getfield 391, 3) := by decide +kernel
theorem dX8_aheadOf_42 : decode cX8_aheadOf 42 = .ok (.iload_n 3, 1) := by decide +kernel
theorem dX8_aheadOf_43 : decode cX8_aheadOf 43 = .ok (.imul, 1) := by decide +kernel
theorem dX8_aheadOf_44 : decode cX8_aheadOf 44 = .ok (.iload_n 2, 1) := by decide +kernel
theorem dX8_aheadOf_45 : decode cX8_aheadOf 45 = .ok (.aload_n 0, 1) := by decide +kernel
theorem dX8_aheadOf_46 : decode cX8_aheadOf 46 = .ok (.getfield 394, 3) := by decide +kernel
theorem dX8_aheadOf_49 : decode cX8_aheadOf 49 = .ok (.imul, 1) := by decide +kernel
theorem dX8_aheadOf_50 : decode cX8_aheadOf 50 = .ok (.isub, 1) := by decide +kernel
theorem dX8_aheadOf_51 : decode cX8_aheadOf 51 = .ok (.istore 6, 2) := by decide +kernel
theorem dX8_aheadOf_53 : decode cX8_aheadOf 53 = .ok (.iload 4, 2) := by decide +kernel
theorem dX8_aheadOf_55 : decode cX8_aheadOf 55 = .ok (.aload_n 0, 1) := by decide +kernel
theorem dX8_aheadOf_56 : decode cX8_aheadOf 56 = .ok (.getfield 394, 3) := by decide +kernel
theorem dX8_aheadOf_59 : decode cX8_aheadOf 59 = .ok (.ifCond .le 23, 3) := by decide +kernel
theorem dX8_aheadOf_62 : decode cX8_aheadOf 62 = .ok (.iload 6, 2) := by decide +kernel
theorem dX8_aheadOf_64 : decode cX8_aheadOf 64 = .ok (.ifCond .gt 14, 3) := by decide +kernel
theorem dX8_aheadOf_67 : decode cX8_aheadOf 67 = .ok (.iload 6, 2) := by decide +kernel
theorem dX8_aheadOf_69 : decode cX8_aheadOf 69 = .ok (.ifCond .ne 13, 3) := by decide +kernel
theorem dX8_aheadOf_72 : decode cX8_aheadOf 72 = .ok (.iload 5, 2) := by decide +kernel
theorem dX8_aheadOf_74 : decode cX8_aheadOf 74 = .ok (.iload_n 1, 1) := by decide +kernel
theorem dX8_aheadOf_75 : decode cX8_aheadOf 75 = .ok (.if_icmp .ge 7, 3) := by decide +kernel
theorem dX8_aheadOf_78 : decode cX8_aheadOf 78 = .ok (.iconst 1, 1) := by decide +kernel
theorem dX8_aheadOf_79 : decode cX8_aheadOf 79 = .ok (.goto 4, 3) := by decide +kernel
theorem dX8_aheadOf_82 : decode cX8_aheadOf 82 = .ok (.iconst 0, 1) := by decide +kernel
theorem dX8_aheadOf_83 : decode cX8_aheadOf 83 = .ok (.iadd, 1) := by decide +kernel
theorem dX8_aheadOf_84 : decode cX8_aheadOf 84 = .ok (.istore 4, 2) := by decide +kernel
theorem dX8_aheadOf_86 : decode cX8_aheadOf 86 = .ok (.iinc 5 1, 3) := by decide +kernel
theorem dX8_aheadOf_89 : decode cX8_aheadOf 89 = .ok (.goto (-68), 3) := by decide +kernel
theorem dX8_aheadOf_92 : decode cX8_aheadOf 92 = .ok (.iload 4, 2) := by decide +kernel
theorem dX8_aheadOf_94 : decode cX8_aheadOf 94 = .ok (.ireturn, 1) := by decide +kernel
abbrev rX8_aheadOf : Room := { frames := 2, cells := 0, slots := 0, locals := 46 }
theorem cal_X8_aheadOf : CalOk yX8_aheadOf cX8_aheadOf 7 (some .int) 1 := ⟨wm_7_98, wm_1_9, by decide, by decide, by decide +kernel⟩
def f_X8_aheadOf_21 : Nat → Nat → Int32 → Int32 → Int32 → Int32 → Int32 → Mm → Option (Int32 × Mm)
  | 0, _, _, _, _, _, _, _ => none
  | n + 1, x0, x1, x2, x3, x4, x5, M =>
    ck (gK M x0 = 8) (bR (gR M x0 11) fun q1 => ck (gK M q1 = 10 ∧ inb (1 : Int32) (gN M q1)) ((if (gI M q1 ((1 : Int32)).toNatClampNeg) ≤ x5 then
      some (x4, M)
    else
      ck (gK M x0 = 8) (bd (f_X8_adds x0 x5 M) fun _ M2 =>
      ck (gK M2 x0 = 8) (ck (gK M2 x0 = 8) (nm (((gI M2 x0 32) * x3) - (x2 * (gI M2 x0 33))) fun v3 =>
      ck (gK M2 x0 = 8) ((if (gI M2 x0 33) ≤ 0 then
        nm (x4 + (0 : Int32)) fun v4 =>
        f_X8_aheadOf_21 n x0 x1 x2 x3 v4 (x5 + (1 : Int32)) M2
      else
        (if 0 < v3 then
          nm (x4 + (1 : Int32)) fun v6 =>
          f_X8_aheadOf_21 n x0 x1 x2 x3 v6 (x5 + (1 : Int32)) M2
        else
          (if ¬ v3 = 0 then
            nm (x4 + (0 : Int32)) fun v8 =>
            f_X8_aheadOf_21 n x0 x1 x2 x3 v8 (x5 + (1 : Int32)) M2
          else
            (if x1 ≤ x5 then
              nm (x4 + (0 : Int32)) fun v10 =>
              f_X8_aheadOf_21 n x0 x1 x2 x3 v10 (x5 + (1 : Int32)) M2
            else
              nm (x4 + (1 : Int32)) fun v12 =>
              f_X8_aheadOf_21 n x0 x1 x2 x3 v12 (x5 + (1 : Int32)) M2)))))))))))
set_option maxRecDepth 20000 in
set_option maxHeartbeats 4000000 in
theorem s_X8_aheadOf_21 {z : Zt} {K : Int32 → Mm → Prop} (hz : Good z RX8 cX8_aheadOf 7 rX8_aheadOf (some .int)) (hq : Ret z zI K) : ∀ (n : Nat) (x0 : Nat) (x1 : Int32) (x2 : Int32) (x3 : Int32) (x4 : Int32) (x5 : Int32) (M : Mm), Sim z 21 [(0, .ref x0), (1, .int x1), (2, .int x2), (3, .int x3), (4, .int x4), (5, .int x5)] [] M 0 0 (f_X8_aheadOf_21 n x0 x1 x2 x3 x4 x5 M) K := by
  intro n
  induction n with
  | zero => exact fun _ _ _ _ _ _ _ => r_none
  | succ n ih =>
    intro x0 x1 x2 x3 x4 x5 M
    unfold f_X8_aheadOf_21
    refine r_iload hz dX8_aheadOf_21 5 rfl ?_
    refine r_aload_n hz dX8_aheadOf_23 0 rfl ?_
    refine r_getR (j := 11) cl8 hz dX8_aheadOf_24 (by decide) wm_5_67 rfl (fun q1 => ?_)
    refine r_iconst (v := 1) hz dX8_aheadOf_27 rfl ?_
    refine r_iald hz dX8_aheadOf_28 ?_
    refine r_icmp_ge (tgt := 92) hz dX8_aheadOf_29 rfl ?_ ?_
    · refine r_iload hz dX8_aheadOf_92 4 rfl ?_
      exact r_iret hz hq dX8_aheadOf_94 (Nat.le_of_ble_eq_true rfl) (Nat.le_of_ble_eq_true rfl)
    · refine r_aload_n hz dX8_aheadOf_32 0 rfl ?_
      refine r_iload hz dX8_aheadOf_33 5 rfl ?_
      refine r_callVv (As := fun _ => [.int x5]) cl8 hz (fun _ _ h => t_X8_adds _ _ _ _ _ h) cal_X8_adds dX8_aheadOf_35 wm_7_87 wm_7_89 wm_p_91 rfl rfl (Nat.le_of_ble_eq_true rfl) ⟨(Nat.le_of_ble_eq_true rfl), (Nat.le_of_ble_eq_true rfl)⟩ ⟨(Nat.le_of_ble_eq_true rfl), (Nat.le_of_ble_eq_true rfl)⟩ (fun _ M2 => ?_)
      refine r_aload_n hz dX8_aheadOf_38 0 rfl ?_
      refine r_getI (j := 32) cl8 hz dX8_aheadOf_39 (by decide) wm_5_88 rfl ?_
      refine r_iload_n hz dX8_aheadOf_42 3 rfl ?_
      refine r_imul hz dX8_aheadOf_43 ?_
      refine r_iload_n hz dX8_aheadOf_44 2 rfl ?_
      refine r_aload_n hz dX8_aheadOf_45 0 rfl ?_
      refine r_getI (j := 33) cl8 hz dX8_aheadOf_46 (by decide) wm_5_89 rfl ?_
      refine r_imul hz dX8_aheadOf_49 ?_
      refine r_isub hz dX8_aheadOf_50 ?_
      refine r_nmi (fun v3 => ?_)
      refine r_istore (lv' := [(6, .int v3), (0, .ref x0), (1, .int x1), (2, .int x2), (3, .int x3), (4, .int x4), (5, .int x5)]) hz dX8_aheadOf_51 (by decide) rfl ?_
      refine r_iload hz dX8_aheadOf_53 5 rfl ?_
      refine r_aload_n hz dX8_aheadOf_55 1 rfl ?_
      refine r_getI (j := 33) cl8 hz dX8_aheadOf_56 (by decide) wm_5_89 rfl ?_
      refine r_if_le (tgt := 82) hz dX8_aheadOf_59 rfl ?_ ?_
      · refine r_iconst (v := 0) hz dX8_aheadOf_82 rfl ?_
        refine r_iadd hz dX8_aheadOf_83 ?_
        refine r_nmi (fun v4 => ?_)
        refine r_istore (lv' := [(4, .int v4), (6, .int v3), (0, .ref x0), (1, .int x1), (2, .int x2), (3, .int x3), (5, .int x5)]) hz dX8_aheadOf_84 (by decide) rfl ?_
        refine r_iinc (v := (x5 + (1 : Int32))) (lv' := [(5, .int (x5 + (1 : Int32))), (4, .int v4), (6, .int v3), (0, .ref x0), (1, .int x1), (2, .int x2), (3, .int x3)]) hz dX8_aheadOf_86 6 rfl rfl (by decide) rfl ?_
        refine r_goto (tgt := 21) hz dX8_aheadOf_89 rfl ?_
        refine r_sub [3, 4, 5, 6, 1, 0] rfl ?_
        exact ih x0 x1 x2 x3 v4 (x5 + (1 : Int32)) M2
      · refine r_iload hz dX8_aheadOf_62 0 rfl ?_
        refine r_if_gt (tgt := 78) hz dX8_aheadOf_64 rfl ?_ ?_
        · refine r_iconst (v := 1) hz dX8_aheadOf_78 rfl ?_
          refine r_goto (tgt := 83) hz dX8_aheadOf_79 rfl ?_
          refine r_iadd hz dX8_aheadOf_83 ?_
          refine r_nmi (fun v6 => ?_)
          refine r_istore (lv' := [(4, .int v6), (6, .int v3), (0, .ref x0), (1, .int x1), (2, .int x2), (3, .int x3), (5, .int x5)]) hz dX8_aheadOf_84 (by decide) rfl ?_
          refine r_iinc (v := (x5 + (1 : Int32))) (lv' := [(5, .int (x5 + (1 : Int32))), (4, .int v6), (6, .int v3), (0, .ref x0), (1, .int x1), (2, .int x2), (3, .int x3)]) hz dX8_aheadOf_86 6 rfl rfl (by decide) rfl ?_
          refine r_goto (tgt := 21) hz dX8_aheadOf_89 rfl ?_
          refine r_sub [3, 4, 5, 6, 1, 0] rfl ?_
          exact ih x0 x1 x2 x3 v6 (x5 + (1 : Int32)) M2
        · refine r_iload hz dX8_aheadOf_67 0 rfl ?_
          refine r_if_ne (tgt := 82) hz dX8_aheadOf_69 rfl ?_ ?_
          · refine r_iconst (v := 0) hz dX8_aheadOf_82 rfl ?_
            refine r_iadd hz dX8_aheadOf_83 ?_
            refine r_nmi (fun v8 => ?_)
            refine r_istore (lv' := [(4, .int v8), (6, .int v3), (0, .ref x0), (1, .int x1), (2, .int x2), (3, .int x3), (5, .int x5)]) hz dX8_aheadOf_84 (by decide) rfl ?_
            refine r_iinc (v := (x5 + (1 : Int32))) (lv' := [(5, .int (x5 + (1 : Int32))), (4, .int v8), (6, .int v3), (0, .ref x0), (1, .int x1), (2, .int x2), (3, .int x3)]) hz dX8_aheadOf_86 6 rfl rfl (by decide) rfl ?_
            refine r_goto (tgt := 21) hz dX8_aheadOf_89 rfl ?_
            refine r_sub [3, 4, 5, 6, 1, 0] rfl ?_
            exact ih x0 x1 x2 x3 v8 (x5 + (1 : Int32)) M2
          · refine r_iload hz dX8_aheadOf_72 6 rfl ?_
            refine r_iload_n hz dX8_aheadOf_74 2 rfl ?_
            refine r_icmp_ge (tgt := 82) hz dX8_aheadOf_75 rfl ?_ ?_
            · refine r_iconst (v := 0) hz dX8_aheadOf_82 rfl ?_
              refine r_iadd hz dX8_aheadOf_83 ?_
              refine r_nmi (fun v10 => ?_)
              refine r_istore (lv' := [(4, .int v10), (6, .int v3), (0, .ref x0), (1, .int x1), (2, .int x2), (3, .int x3), (5, .int x5)]) hz dX8_aheadOf_84 (by decide) rfl ?_
              refine r_iinc (v := (x5 + (1 : Int32))) (lv' := [(5, .int (x5 + (1 : Int32))), (4, .int v10), (6, .int v3), (0, .ref x0), (1, .int x1), (2, .int x2), (3, .int x3)]) hz dX8_aheadOf_86 6 rfl rfl (by decide) rfl ?_
              refine r_goto (tgt := 21) hz dX8_aheadOf_89 rfl ?_
              refine r_sub [3, 4, 5, 6, 1, 0] rfl ?_
              exact ih x0 x1 x2 x3 v10 (x5 + (1 : Int32)) M2
            · refine r_iconst (v := 1) hz dX8_aheadOf_78 rfl ?_
              refine r_goto (tgt := 83) hz dX8_aheadOf_79 rfl ?_
              refine r_iadd hz dX8_aheadOf_83 ?_
              refine r_nmi (fun v12 => ?_)
              refine r_istore (lv' := [(4, .int v12), (6, .int v3), (0, .ref x0), (1, .int x1), (2, .int x2), (3, .int x3), (5, .int x5)]) hz dX8_aheadOf_84 (by decide) rfl ?_
              refine r_iinc (v := (x5 + (1 : Int32))) (lv' := [(5, .int (x5 + (1 : Int32))), (4, .int v12), (6, .int v3), (0, .ref x0), (1, .int x1), (2, .int x2), (3, .int x3)]) hz dX8_aheadOf_86 6 rfl rfl (by decide) rfl ?_
              refine r_goto (tgt := 21) hz dX8_aheadOf_89 rfl ?_
              refine r_sub [3, 4, 5, 6, 1, 0] rfl ?_
              exact ih x0 x1 x2 x3 v12 (x5 + (1 : Int32)) M2
def f_X8_aheadOf (p0 : Nat) (p1 : Int32) (M : Mm) : Option (Int32 × Mm) :=
  ck (gK M p0 = 8) (bd (f_X8_adds p0 p1 M) fun _ M1 =>
  ck (gK M1 p0 = 8) (nm (gI M1 p0 32) fun v2 =>
  ck (gK M1 p0 = 8) (nm (gI M1 p0 33) fun v3 =>
  f_X8_aheadOf_21 FU p0 p1 v2 v3 (0 : Int32) (0 : Int32) M1)))
set_option maxRecDepth 20000 in
set_option maxHeartbeats 4000000 in
theorem t_X8_aheadOf (p0 : Nat) (p1 : Int32) (M : Mm) (x : Int32) (M' : Mm) (h : f_X8_aheadOf p0 p1 M = some (x, M')) : Ctr yX8_aheadOf cX8_aheadOf 7 (some .int) rX8_aheadOf (fun _ => [.ref p0, .int p1]) M (zI x) M' := by
  refine ctr_of (plainFor_of_name (by decide)) (fun _ => Nat.le_of_ble_eq_true rfl) (fun z hz hin hq => ?_)
  have key : Sim z 0 [(0, .ref p0), (1, .int p1)] [] M 0 0 (f_X8_aheadOf p0 p1 M) (fun a b => a = x ∧ b = M') := by
    have hq : Ret z zI (fun a b => a = x ∧ b = M') := fun a b e => by rw [e.1, e.2]; exact hq
    unfold f_X8_aheadOf
    refine r_aload_n hz dX8_aheadOf_0 0 rfl ?_
    refine r_iload_n hz dX8_aheadOf_1 1 rfl ?_
    refine r_callVv (As := fun _ => [.int p1]) cl8 hz (fun _ _ h => t_X8_adds _ _ _ _ _ h) cal_X8_adds dX8_aheadOf_2 wm_7_87 wm_7_89 wm_p_91 rfl rfl (Nat.le_of_ble_eq_true rfl) ⟨(Nat.le_of_ble_eq_true rfl), (Nat.le_of_ble_eq_true rfl)⟩ ⟨(Nat.le_of_ble_eq_true rfl), (Nat.le_of_ble_eq_true rfl)⟩ (fun _ M1 => ?_)
    refine r_aload_n hz dX8_aheadOf_5 0 rfl ?_
    refine r_getI (j := 32) cl8 hz dX8_aheadOf_6 (by decide) wm_5_88 rfl ?_
    refine r_nmi (fun v2 => ?_)
    refine r_istore_n (lv' := [(2, .int v2), (0, .ref p0), (1, .int p1)]) hz dX8_aheadOf_9 (by decide) rfl ?_
    refine r_aload_n hz dX8_aheadOf_10 1 rfl ?_
    refine r_getI (j := 33) cl8 hz dX8_aheadOf_11 (by decide) wm_5_89 rfl ?_
    refine r_nmi (fun v3 => ?_)
    refine r_istore_n (lv' := [(3, .int v3), (2, .int v2), (0, .ref p0), (1, .int p1)]) hz dX8_aheadOf_14 (by decide) rfl ?_
    refine r_iconst (v := 0) hz dX8_aheadOf_15 rfl ?_
    refine r_istore (lv' := [(4, .int (0 : Int32)), (3, .int v3), (2, .int v2), (0, .ref p0), (1, .int p1)]) hz dX8_aheadOf_16 (by decide) rfl ?_
    refine r_iconst (v := 0) hz dX8_aheadOf_18 rfl ?_
    refine r_istore (lv' := [(5, .int (0 : Int32)), (4, .int (0 : Int32)), (3, .int v3), (2, .int v2), (0, .ref p0), (1, .int p1)]) hz dX8_aheadOf_19 (by decide) rfl ?_
    refine r_sub [4, 5, 3, 2, 1, 0] rfl ?_
    exact s_X8_aheadOf_21 hz hq FU p0 p1 v2 v3 (0 : Int32) (0 : Int32) M1
  exact key x M' h ⟨rfl, rfl⟩
theorem dX8_unlucky_0 : decode cX8_unlucky 0 = .ok (.aload_n 0, 1) := by decide +kernel
theorem dX8_unlucky_1 : decode cX8_unlucky 1 = .ok (.iconst 0, 1) := by decide +kernel
theorem dX8_unlucky_2 : decode cX8_unlucky 2 = .ok (.putfield 46, 3) := by decide +kernel
theorem dX8_unlucky_5 : decode cX8_unlucky 5 = .ok (.iconst 0, 1) := by decide +kernel
theorem dX8_unlucky_6 : decode cX8_unlucky 6 = .ok (.istore_n 2, 1) := by decide +kernel
theorem dX8_unlucky_7 : decode cX8_unlucky 7 = .ok (.iconst 0, 1) := by decide +kernel
theorem dX8_unlucky_8 : decode cX8_unlucky 8 = .ok (.istore_n 3, 1) := by decide +kernel
theorem dX8_unlucky_9 : decode cX8_unlucky 9 = .ok (.iload_n 3, 1) := by decide +kernel
theorem dX8_unlucky_10 : decode cX8_unlucky 10 = .ok (.aload_n 0, 1) := by decide +kernel
theorem dX8_unlucky_11 : decode cX8_unlucky 11 = .ok (.getfield 13, 3) := by decide +kernel
theorem dX8_unlucky_14 : decode cX8_unlucky 14 = .ok (.iconst 1, 1) := by decide +kernel
theorem dX8_unlucky_15 : decode cX8_unlucky 15 = .ok (.iaload, 1) := by decide +kernel
theorem dX8_unlucky_16 : decode cX8_unlucky 16 = .ok (.if_icmp .ge 39, 3) := by decide +kernel
theorem dX8_unlucky_19 : decode cX8_unlucky 19 = .ok (.aload_n 0, 1) := by decide +kernel
theorem dX8_unlucky_20 : decode cX8_unlucky 20 = .ok (.iload_n 3, 1) := by decide +kernel
theorem dX8_unlucky_21 : decode cX8_unlucky 21 = .ok (.invokevirtual 397, 3) := by decide +kernel
theorem dX8_unlucky_24 : decode cX8_unlucky 24 = .ok (.aload_n 0, 1) := by decide +kernel
theorem dX8_unlucky_25 : decode cX8_unlucky 25 = .ok (.getfield 394, 3) := by decide +kernel
theorem dX8_unlucky_28 : decode cX8_unlucky 28 = .ok (.ifCond .le 21, 3) := by decide +kernel
theorem dX8_unlucky_31 : decode cX8_unlucky 31 = .ok (.iinc 2 1, 3) := by decide +kernel
theorem dX8_unlucky_34 : decode cX8_unlucky 34 = .ok (.iload_n 1, 1) := by decide +kernel
theorem dX8_unlucky_35 : decode cX8_unlucky 35 = .ok (.ifCond .lt 14, 3) := by decide +kernel
theorem dX8_unlucky_38 : decode cX8_unlucky 38 = .ok (.aload_n 0, 1) := by decide +kernel
theorem dX8_unlucky_39 : decode cX8_unlucky 39 = .ok (.iload_n 3, 1) := by decide +kernel
theorem dX8_unlucky_40 : decode cX8_unlucky 40 = .ok (.invokevirtual 400, 3) := by decide +kernel
theorem dX8_unlucky_43 : decode cX8_unlucky 43 = .ok (.iload_n 1, 1) := by decide +kernel
theorem dX8_unlucky_44 : decode cX8_unlucky 44 = .ok (.if_icmp .ne 5, 3) := by decide +kernel
theorem dX8_unlucky_47 : decode cX8_unlucky 47 = .ok (.iload_n 3, 1) := by decide +kernel
theorem dX8_unlucky_48 : decode cX8_unlucky 48 = .ok (.ireturn, 1) := by decide +kernel
theorem dX8_unlucky_49 : decode cX8_unlucky 49 = .ok (.iinc 3 1, 3) := by decide +kernel
theorem dX8_unlucky_52 : decode cX8_unlucky 52 = .ok (.goto (-43), 3) := by decide +kernel
theorem dX8_unlucky_55 : decode cX8_unlucky 55 = .ok (.iload_n 1, 1) := by decide +kernel
theorem dX8_unlucky_56 : decode cX8_unlucky 56 = .ok (.iconst (-1), 1) := by decide +kernel
theorem dX8_unlucky_57 : decode cX8_unlucky 57 = .ok (.if_icmp .ne 7, 3) := by decide +kernel
theorem dX8_unlucky_60 : decode cX8_unlucky 60 = .ok (.iload_n 2, 1) := by decide +kernel
theorem dX8_unlucky_61 : decode cX8_unlucky 61 = .ok (.goto 5, 3) := by decide +kernel
theorem dX8_unlucky_64 : decode cX8_unlucky 64 = .ok (.bipush (-2), 2) := by decide +kernel
theorem dX8_unlucky_66 : decode cX8_unlucky 66 = .ok (.ireturn, 1) := by decide +kernel
abbrev rX8_unlucky : Room := { frames := 3, cells := 0, slots := 0, locals := 72 }
theorem cal_X8_unlucky : CalOk yX8_unlucky cX8_unlucky 4 (some .int) 1 := ⟨wm_7_94, wm_1_9, by decide, by decide, by decide +kernel⟩
def f_X8_unlucky_9 : Nat → Nat → Int32 → Int32 → Int32 → Mm → Option (Int32 × Mm)
  | 0, _, _, _, _, _ => none
  | n + 1, x0, x1, x2, x3, M =>
    ck (gK M x0 = 8) (bR (gR M x0 11) fun q1 => ck (gK M q1 = 10 ∧ inb (1 : Int32) (gN M q1)) ((if (gI M q1 ((1 : Int32)).toNatClampNeg) ≤ x3 then
      (if ¬ x1 = (-1 : Int32) then
        some ((-2 : Int32), M)
      else
        some (x2, M))
    else
      ck (gK M x0 = 8) (bd (f_X8_adds x0 x3 M) fun _ M2 =>
      ck (gK M2 x0 = 8) ((if (gI M2 x0 33) ≤ 0 then
        f_X8_unlucky_9 n x0 x1 x2 (x3 + (1 : Int32)) M2
      else
        (if x1 < 0 then
          f_X8_unlucky_9 n x0 x1 (x2 + (1 : Int32)) (x3 + (1 : Int32)) M2
        else
          ck (gK M2 x0 = 8) (bd (f_X8_aheadOf x0 x3 M2) fun v7 M6 =>
          (if ¬ v7 = x1 then
            f_X8_unlucky_9 n x0 x1 (x2 + (1 : Int32)) (x3 + (1 : Int32)) M6
          else
            some (x3, M6))))))))))
set_option maxRecDepth 20000 in
set_option maxHeartbeats 4000000 in
theorem s_X8_unlucky_9 {z : Zt} {K : Int32 → Mm → Prop} (hz : Good z RX8 cX8_unlucky 4 rX8_unlucky (some .int)) (hq : Ret z zI K) : ∀ (n : Nat) (x0 : Nat) (x1 : Int32) (x2 : Int32) (x3 : Int32) (M : Mm), Sim z 9 [(0, .ref x0), (1, .int x1), (2, .int x2), (3, .int x3)] [] M 0 0 (f_X8_unlucky_9 n x0 x1 x2 x3 M) K := by
  intro n
  induction n with
  | zero => exact fun _ _ _ _ _ => r_none
  | succ n ih =>
    intro x0 x1 x2 x3 M
    unfold f_X8_unlucky_9
    refine r_iload_n hz dX8_unlucky_9 3 rfl ?_
    refine r_aload_n hz dX8_unlucky_10 0 rfl ?_
    refine r_getR (j := 11) cl8 hz dX8_unlucky_11 (by decide) wm_5_67 rfl (fun q1 => ?_)
    refine r_iconst (v := 1) hz dX8_unlucky_14 rfl ?_
    refine r_iald hz dX8_unlucky_15 ?_
    refine r_icmp_ge (tgt := 55) hz dX8_unlucky_16 rfl ?_ ?_
    · refine r_iload_n hz dX8_unlucky_55 1 rfl ?_
      refine r_iconst (v := -1) hz dX8_unlucky_56 rfl ?_
      refine r_icmp_ne (tgt := 64) hz dX8_unlucky_57 rfl ?_ ?_
      · refine r_bipush (v := -2) hz dX8_unlucky_64 rfl ?_
        exact r_iret hz hq dX8_unlucky_66 (Nat.le_of_ble_eq_true rfl) (Nat.le_of_ble_eq_true rfl)
      · refine r_iload_n hz dX8_unlucky_60 2 rfl ?_
        refine r_goto (tgt := 66) hz dX8_unlucky_61 rfl ?_
        exact r_iret hz hq dX8_unlucky_66 (Nat.le_of_ble_eq_true rfl) (Nat.le_of_ble_eq_true rfl)
    · refine r_aload_n hz dX8_unlucky_19 0 rfl ?_
      refine r_iload_n hz dX8_unlucky_20 3 rfl ?_
      refine r_callVv (As := fun _ => [.int x3]) cl8 hz (fun _ _ h => t_X8_adds _ _ _ _ _ h) cal_X8_adds dX8_unlucky_21 wm_7_87 wm_7_89 wm_p_91 rfl rfl (Nat.le_of_ble_eq_true rfl) ⟨(Nat.le_of_ble_eq_true rfl), (Nat.le_of_ble_eq_true rfl)⟩ ⟨(Nat.le_of_ble_eq_true rfl), (Nat.le_of_ble_eq_true rfl)⟩ (fun _ M2 => ?_)
      refine r_aload_n hz dX8_unlucky_24 0 rfl ?_
      refine r_getI (j := 33) cl8 hz dX8_unlucky_25 (by decide) wm_5_89 rfl ?_
      refine r_if_le (tgt := 49) hz dX8_unlucky_28 rfl ?_ ?_
      · refine r_iinc (v := (x3 + (1 : Int32))) (lv' := [(3, .int (x3 + (1 : Int32))), (0, .ref x0), (1, .int x1), (2, .int x2)]) hz dX8_unlucky_49 3 rfl rfl (by decide) rfl ?_
        refine r_goto (tgt := 9) hz dX8_unlucky_52 rfl ?_
        refine r_sub [1, 2, 3, 0] rfl ?_
        exact ih x0 x1 x2 (x3 + (1 : Int32)) M2
      · refine r_iinc (v := (x2 + (1 : Int32))) (lv' := [(2, .int (x2 + (1 : Int32))), (0, .ref x0), (1, .int x1), (3, .int x3)]) hz dX8_unlucky_31 2 rfl rfl (by decide) rfl ?_
        refine r_iload_n hz dX8_unlucky_34 2 rfl ?_
        refine r_if_lt (tgt := 49) hz dX8_unlucky_35 rfl ?_ ?_
        · refine r_iinc (v := (x3 + (1 : Int32))) (lv' := [(3, .int (x3 + (1 : Int32))), (2, .int (x2 + (1 : Int32))), (0, .ref x0), (1, .int x1)]) hz dX8_unlucky_49 3 rfl rfl (by decide) rfl ?_
          refine r_goto (tgt := 9) hz dX8_unlucky_52 rfl ?_
          refine r_sub [2, 3, 1, 0] rfl ?_
          exact ih x0 x1 (x2 + (1 : Int32)) (x3 + (1 : Int32)) M2
        · refine r_aload_n hz dX8_unlucky_38 1 rfl ?_
          refine r_iload_n hz dX8_unlucky_39 3 rfl ?_
          refine r_callVi (As := fun _ => [.int x3]) cl8 hz (fun _ _ h => t_X8_aheadOf _ _ _ _ _ h) cal_X8_aheadOf dX8_unlucky_40 wm_7_95 wm_7_97 wm_p_92 rfl rfl (Nat.le_of_ble_eq_true rfl) ⟨(Nat.le_of_ble_eq_true rfl), (Nat.le_of_ble_eq_true rfl)⟩ ⟨(Nat.le_of_ble_eq_true rfl), (Nat.le_of_ble_eq_true rfl)⟩ (fun v7 M6 => ?_)
          refine r_iload_n hz dX8_unlucky_43 2 rfl ?_
          refine r_icmp_ne (tgt := 49) hz dX8_unlucky_44 rfl ?_ ?_
          · refine r_iinc (v := (x3 + (1 : Int32))) (lv' := [(3, .int (x3 + (1 : Int32))), (2, .int (x2 + (1 : Int32))), (0, .ref x0), (1, .int x1)]) hz dX8_unlucky_49 3 rfl rfl (by decide) rfl ?_
            refine r_goto (tgt := 9) hz dX8_unlucky_52 rfl ?_
            refine r_sub [2, 3, 1, 0] rfl ?_
            exact ih x0 x1 (x2 + (1 : Int32)) (x3 + (1 : Int32)) M6
          · refine r_iload_n hz dX8_unlucky_47 3 rfl ?_
            exact r_iret hz hq dX8_unlucky_48 (Nat.le_of_ble_eq_true rfl) (Nat.le_of_ble_eq_true rfl)
def f_X8_unlucky (p0 : Nat) (p1 : Int32) (M : Mm) : Option (Int32 × Mm) :=
  ck (gK M p0 = 8) (nm (sI M p0 0 (0 : Int32)) fun M1 =>
  f_X8_unlucky_9 FU p0 p1 (0 : Int32) (0 : Int32) M1)
set_option maxRecDepth 20000 in
set_option maxHeartbeats 4000000 in
theorem t_X8_unlucky (p0 : Nat) (p1 : Int32) (M : Mm) (x : Int32) (M' : Mm) (h : f_X8_unlucky p0 p1 M = some (x, M')) : Ctr yX8_unlucky cX8_unlucky 4 (some .int) rX8_unlucky (fun _ => [.ref p0, .int p1]) M (zI x) M' := by
  refine ctr_of (plainFor_of_name (by decide)) (fun _ => Nat.le_of_ble_eq_true rfl) (fun z hz hin hq => ?_)
  have key : Sim z 0 [(0, .ref p0), (1, .int p1)] [] M 0 0 (f_X8_unlucky p0 p1 M) (fun a b => a = x ∧ b = M') := by
    have hq : Ret z zI (fun a b => a = x ∧ b = M') := fun a b e => by rw [e.1, e.2]; exact hq
    unfold f_X8_unlucky
    refine r_aload_n hz dX8_unlucky_0 0 rfl ?_
    refine r_iconst (v := 0) hz dX8_unlucky_1 rfl ?_
    refine r_putI (j := 0) cl8 hz dX8_unlucky_2 (by decide) wm_5_56 (Or.inl rfl) rfl rfl rfl ?_
    refine r_nmM (fun M1 => ?_)
    refine r_iconst (v := 0) hz dX8_unlucky_5 rfl ?_
    refine r_istore_n (lv' := [(2, .int (0 : Int32)), (0, .ref p0), (1, .int p1)]) hz dX8_unlucky_6 (by decide) rfl ?_
    refine r_iconst (v := 0) hz dX8_unlucky_7 rfl ?_
    refine r_istore_n (lv' := [(3, .int (0 : Int32)), (2, .int (0 : Int32)), (0, .ref p0), (1, .int p1)]) hz dX8_unlucky_8 (by decide) rfl ?_
    refine r_sub [2, 3, 1, 0] rfl ?_
    exact s_X8_unlucky_9 hz hq FU p0 p1 (0 : Int32) (0 : Int32) M1
  exact key x M' h ⟨rfl, rfl⟩
theorem dX8_paid_0 : decode cX8_paid 0 = .ok (.aload_n 0, 1) := by decide +kernel
theorem dX8_paid_1 : decode cX8_paid 1 = .ok (.iconst 0, 1) := by decide +kernel
theorem dX8_paid_2 : decode cX8_paid 2 = .ok (.putfield 46, 3) := by decide +kernel
theorem dX8_paid_5 : decode cX8_paid 5 = .ok (.aload_n 0, 1) := by decide +kernel
theorem dX8_paid_6 : decode cX8_paid 6 = .ok (.iload_n 1, 1) := by decide +kernel
theorem dX8_paid_7 : decode cX8_paid 7 = .ok (.invokevirtual 222, 3) := by decide +kernel
theorem dX8_paid_10 : decode cX8_paid 10 = .ok (.ifCond .eq 15, 3) := by decide +kernel
theorem dX8_paid_13 : decode cX8_paid 13 = .ok (.iload_n 2, 1) := by decide +kernel
theorem dX8_paid_14 : decode cX8_paid 14 = .ok (.i2l, 1) := by decide +kernel
theorem dX8_paid_15 : decode cX8_paid 15 = .ok (.lconst 0, 1) := by decide +kernel
theorem dX8_paid_16 : decode cX8_paid 16 = .ok (.ldc2_w 331, 3) := by decide +kernel
theorem dX8_paid_19 : decode cX8_paid 19 = .ok (.invokestatic 83, 3) := by decide +kernel
theorem dX8_paid_22 : decode cX8_paid 22 = .ok (.ifCond .ne 7, 3) := by decide +kernel
theorem dX8_paid_25 : decode cX8_paid 25 = .ok (.ldc2_w 335, 3) := by decide +kernel
theorem dX8_paid_28 : decode cX8_paid 28 = .ok (.lreturn, 1) := by decide +kernel
theorem dX8_paid_29 : decode cX8_paid 29 = .ok (.iload_n 2, 1) := by decide +kernel
theorem dX8_paid_30 : decode cX8_paid 30 = .ok (.iconst 4, 1) := by decide +kernel
theorem dX8_paid_31 : decode cX8_paid 31 = .ok (.if_icmp .eq 20, 3) := by decide +kernel
theorem dX8_paid_34 : decode cX8_paid 34 = .ok (.aload_n 0, 1) := by decide +kernel
theorem dX8_paid_35 : decode cX8_paid 35 = .ok (.getfield 20, 3) := by decide +kernel
theorem dX8_paid_38 : decode cX8_paid 38 = .ok (.sipush 1383, 3) := by decide +kernel
theorem dX8_paid_41 : decode cX8_paid 41 = .ok (.bipush 6, 2) := by decide +kernel
theorem dX8_paid_43 : decode cX8_paid 43 = .ok (.iload_n 1, 1) := by decide +kernel
theorem dX8_paid_44 : decode cX8_paid 44 = .ok (.imul, 1) := by decide +kernel
theorem dX8_paid_45 : decode cX8_paid 45 = .ok (.iadd, 1) := by decide +kernel
theorem dX8_paid_46 : decode cX8_paid 46 = .ok (.iload_n 2, 1) := by decide +kernel
theorem dX8_paid_47 : decode cX8_paid 47 = .ok (.iadd, 1) := by decide +kernel
theorem dX8_paid_48 : decode cX8_paid 48 = .ok (.iaload, 1) := by decide +kernel
theorem dX8_paid_49 : decode cX8_paid 49 = .ok (.i2l, 1) := by decide +kernel
theorem dX8_paid_50 : decode cX8_paid 50 = .ok (.lreturn, 1) := by decide +kernel
theorem dX8_paid_51 : decode cX8_paid 51 = .ok (.lconst 0, 1) := by decide +kernel
theorem dX8_paid_52 : decode cX8_paid 52 = .ok (.lstore_n 3, 1) := by decide +kernel
theorem dX8_paid_53 : decode cX8_paid 53 = .ok (.iconst 1, 1) := by decide +kernel
theorem dX8_paid_54 : decode cX8_paid 54 = .ok (.istore 5, 2) := by decide +kernel
theorem dX8_paid_56 : decode cX8_paid 56 = .ok (.iload 5, 2) := by decide +kernel
theorem dX8_paid_58 : decode cX8_paid 58 = .ok (.aload_n 0, 1) := by decide +kernel
theorem dX8_paid_59 : decode cX8_paid 59 = .ok (.iload_n 1, 1) := by decide +kernel
theorem dX8_paid_60 : decode cX8_paid 60 = .ok (.iconst 0, 1) := by decide +kernel
theorem dX8_paid_61 : decode cX8_paid 61 = .ok (.invokevirtual 225, 3) := by decide +kernel
theorem dX8_paid_64 : decode cX8_paid 64 = .ok (.if_icmp .gt 41, 3) := by decide +kernel
theorem dX8_paid_67 : decode cX8_paid 67 = .ok (.lload_n 3, 1) := by decide +kernel
theorem dX8_paid_68 : decode cX8_paid 68 = .ok (.aload_n 0, 1) := by decide +kernel
theorem dX8_paid_69 : decode cX8_paid 69 = .ok (.getfield 20, 3) := by decide +kernel
theorem dX8_paid_72 : decode cX8_paid 72 = .ok (.iconst 0, 1) := by decide +kernel
theorem dX8_paid_73 : decode cX8_paid 73 = .ok (.iload_n 1, 1) := by decide +kernel
theorem dX8_paid_74 : decode cX8_paid 74 = .ok (.iload 5, 2) := by decide +kernel
theorem dX8_paid_76 : decode cX8_paid 76 = .ok (.invokestatic 229, 3) := by decide +kernel
theorem dX8_paid_79 : decode cX8_paid 79 = .ok (.iadd, 1) := by decide +kernel
theorem dX8_paid_80 : decode cX8_paid 80 = .ok (.iaload, 1) := by decide +kernel
theorem dX8_paid_81 : decode cX8_paid 81 = .ok (.iconst 1, 1) := by decide +kernel
theorem dX8_paid_82 : decode cX8_paid 82 = .ok (.if_icmp .ne 14, 3) := by decide +kernel
theorem dX8_paid_85 : decode cX8_paid 85 = .ok (.aload_n 0, 1) := by decide +kernel
theorem dX8_paid_86 : decode cX8_paid 86 = .ok (.iload_n 1, 1) := by decide +kernel
theorem dX8_paid_87 : decode cX8_paid 87 = .ok (.iload 5, 2) := by decide +kernel
theorem dX8_paid_89 : decode cX8_paid 89 = .ok (.invokevirtual 299, 3) := by decide +kernel
theorem dX8_paid_92 : decode cX8_paid 92 = .ok (.i2l, 1) := by decide +kernel
theorem dX8_paid_93 : decode cX8_paid 93 = .ok (.goto 4, 3) := by decide +kernel
theorem dX8_paid_96 : decode cX8_paid 96 = .ok (.lconst 0, 1) := by decide +kernel
theorem dX8_paid_97 : decode cX8_paid 97 = .ok (.ladd, 1) := by decide +kernel
theorem dX8_paid_98 : decode cX8_paid 98 = .ok (.lstore_n 3, 1) := by decide +kernel
theorem dX8_paid_99 : decode cX8_paid 99 = .ok (.iinc 5 1, 3) := by decide +kernel
theorem dX8_paid_102 : decode cX8_paid 102 = .ok (.goto (-46), 3) := by decide +kernel
theorem dX8_paid_105 : decode cX8_paid 105 = .ok (.lload_n 3, 1) := by decide +kernel
theorem dX8_paid_106 : decode cX8_paid 106 = .ok (.lreturn, 1) := by decide +kernel
abbrev rX8_paid : Room := { frames := 2, cells := 0, slots := 0, locals := 46 }
theorem cal_X8_paid : CalOk yX8_paid cX8_paid 6 (some .long) 2 := ⟨wm_7_102, wm_1_9, by decide, by decide, by decide +kernel⟩
def f_X8_paid_56 : Nat → Nat → Int32 → Int64 → Int32 → Mm → Option (Int64 × Mm)
  | 0, _, _, _, _, _ => none
  | n + 1, x0, x1, x3, x5, M =>
    ck (gK M x0 = 8) (bd (f_X8_loanOf x0 x1 (0 : Int32) M) fun v2 M1 =>
    (if v2 < x5 then
      some (x3, M1)
    else
      ck (gK M1 x0 = 8) (bR (gR M1 x0 17) fun q3 => bd (f_X8_bondAt x1 x5 M1) fun v5 M4 =>
      ck (gK M4 q3 = 10 ∧ inb ((0 : Int32) + v5) (gN M4 q3)) ((if ¬ (gI M4 q3 (((0 : Int32) + v5)).toNatClampNeg) = (1 : Int32) then
        nm (x3 + (0 : Int64)) fun v6 =>
        f_X8_paid_56 n x0 x1 v6 (x5 + (1 : Int32)) M4
      else
        ck (gK M4 x0 = 8) (bd (f_X8_owedFor x0 x1 x5 M4) fun v9 M8 =>
        nm (x3 + (v9).toInt64) fun v10 =>
        f_X8_paid_56 n x0 x1 v10 (x5 + (1 : Int32)) M8))))))
set_option maxRecDepth 20000 in
set_option maxHeartbeats 4000000 in
theorem s_X8_paid_56 {z : Zt} {K : Int64 → Mm → Prop} (hz : Good z RX8 cX8_paid 6 rX8_paid (some .long)) (hq : Ret z zL K) : ∀ (n : Nat) (x0 : Nat) (x1 : Int32) (x3 : Int64) (x5 : Int32) (M : Mm), Sim z 56 [(0, .ref x0), (1, .int x1), (3, .long x3), (5, .int x5)] [] M 0 0 (f_X8_paid_56 n x0 x1 x3 x5 M) K := by
  intro n
  induction n with
  | zero => exact fun _ _ _ _ _ => r_none
  | succ n ih =>
    intro x0 x1 x3 x5 M
    unfold f_X8_paid_56
    refine r_iload hz dX8_paid_56 3 rfl ?_
    refine r_aload_n hz dX8_paid_58 0 rfl ?_
    refine r_iload_n hz dX8_paid_59 1 rfl ?_
    refine r_iconst (v := 0) hz dX8_paid_60 rfl ?_
    refine r_callVi (As := fun _ => [.int x1, .int (0 : Int32)]) cl8 hz (fun _ _ h => t_X8_loanOf _ _ _ _ _ _ h) cal_X8_loanOf dX8_paid_61 wm_6_68 wm_6_70 wm_p_66 rfl rfl (Nat.le_of_ble_eq_true rfl) ⟨(Nat.le_of_ble_eq_true rfl), (Nat.le_of_ble_eq_true rfl)⟩ ⟨(Nat.le_of_ble_eq_true rfl), (Nat.le_of_ble_eq_true rfl)⟩ (fun v2 M1 => ?_)
    refine r_icmp_gt (tgt := 105) hz dX8_paid_64 rfl ?_ ?_
    · refine r_lload_n hz dX8_paid_105 2 rfl ?_
      exact r_lret hz hq dX8_paid_106 (Nat.le_of_ble_eq_true rfl) (Nat.le_of_ble_eq_true rfl)
    · refine r_lload_n hz dX8_paid_67 2 rfl ?_
      refine r_aload_n hz dX8_paid_68 0 rfl ?_
      refine r_getR (j := 17) cl8 hz dX8_paid_69 (by decide) wm_5_73 rfl (fun q3 => ?_)
      refine r_iconst (v := 0) hz dX8_paid_72 rfl ?_
      refine r_iload_n hz dX8_paid_73 1 rfl ?_
      refine r_iload hz dX8_paid_74 3 rfl ?_
      refine r_callSi (As := fun _ => [.int x1, .int x5]) hz (fun _ _ h => t_X8_bondAt _ _ _ _ _ h) cal_X8_bondAt dX8_paid_76 wm_6_72 wm_6_73 rfl rfl (Nat.le_of_ble_eq_true rfl) ⟨(Nat.le_of_ble_eq_true rfl), (Nat.le_of_ble_eq_true rfl)⟩ ⟨(Nat.le_of_ble_eq_true rfl), (Nat.le_of_ble_eq_true rfl)⟩ (fun v5 M4 => ?_)
      refine r_iadd hz dX8_paid_79 ?_
      refine r_iald hz dX8_paid_80 ?_
      refine r_iconst (v := 1) hz dX8_paid_81 rfl ?_
      refine r_icmp_ne (tgt := 96) hz dX8_paid_82 rfl ?_ ?_
      · refine r_lconst (v := 0) hz dX8_paid_96 rfl ?_
        refine r_ladd hz dX8_paid_97 ?_
        refine r_nml (fun v6 => ?_)
        refine r_lstore_n (lv' := [(3, .long v6), (0, .ref x0), (1, .int x1), (5, .int x5)]) hz dX8_paid_98 (by decide) rfl ?_
        refine r_iinc (v := (x5 + (1 : Int32))) (lv' := [(5, .int (x5 + (1 : Int32))), (3, .long v6), (0, .ref x0), (1, .int x1)]) hz dX8_paid_99 3 rfl rfl (by decide) rfl ?_
        refine r_goto (tgt := 56) hz dX8_paid_102 rfl ?_
        refine r_sub [2, 3, 1, 0] rfl ?_
        exact ih x0 x1 v6 (x5 + (1 : Int32)) M4
      · refine r_aload_n hz dX8_paid_85 0 rfl ?_
        refine r_iload_n hz dX8_paid_86 1 rfl ?_
        refine r_iload hz dX8_paid_87 3 rfl ?_
        refine r_callVi (As := fun _ => [.int x1, .int x5]) cl8 hz (fun _ _ h => t_X8_owedFor _ _ _ _ _ _ h) cal_X8_owedFor dX8_paid_89 wm_6_160 wm_6_162 wm_p_79 rfl rfl (Nat.le_of_ble_eq_true rfl) ⟨(Nat.le_of_ble_eq_true rfl), (Nat.le_of_ble_eq_true rfl)⟩ ⟨(Nat.le_of_ble_eq_true rfl), (Nat.le_of_ble_eq_true rfl)⟩ (fun v9 M8 => ?_)
        refine r_i2l hz dX8_paid_92 ?_
        refine r_goto (tgt := 97) hz dX8_paid_93 rfl ?_
        refine r_ladd hz dX8_paid_97 ?_
        refine r_nml (fun v10 => ?_)
        refine r_lstore_n (lv' := [(3, .long v10), (0, .ref x0), (1, .int x1), (5, .int x5)]) hz dX8_paid_98 (by decide) rfl ?_
        refine r_iinc (v := (x5 + (1 : Int32))) (lv' := [(5, .int (x5 + (1 : Int32))), (3, .long v10), (0, .ref x0), (1, .int x1)]) hz dX8_paid_99 3 rfl rfl (by decide) rfl ?_
        refine r_goto (tgt := 56) hz dX8_paid_102 rfl ?_
        refine r_sub [2, 3, 1, 0] rfl ?_
        exact ih x0 x1 v10 (x5 + (1 : Int32)) M8
def f_X8_paid (p0 : Nat) (p1 : Int32) (p2 : Int32) (M : Mm) : Option (Int64 × Mm) :=
  ck (gK M p0 = 8) (nm (sI M p0 0 (0 : Int32)) fun M1 =>
  ck (gK M1 p0 = 8) (bd (f_X8_isLoan p0 p1 M1) fun v3 M2 =>
  (if v3 = 0 then
    some ((-1 : Int64), M2)
  else
    bd (f_X8_within (p2).toInt64 (0 : Int64) (5 : Int64) M2) fun v5 M4 =>
    (if ¬ v5 = 0 then
      (if p2 = (4 : Int32) then
        f_X8_paid_56 FU p0 p1 (0 : Int64) (1 : Int32) M4
      else
        ck (gK M4 p0 = 8) (bR (gR M4 p0 17) fun q6 => ck (gK M4 q6 = 10 ∧ inb (((1383 : Int32) + ((6 : Int32) * p1)) + p2) (gN M4 q6)) (some (((gI M4 q6 ((((1383 : Int32) + ((6 : Int32) * p1)) + p2)).toNatClampNeg)).toInt64, M4))))
    else
      some ((-1 : Int64), M4)))))
set_option maxRecDepth 20000 in
set_option maxHeartbeats 4000000 in
theorem t_X8_paid (p0 : Nat) (p1 : Int32) (p2 : Int32) (M : Mm) (x : Int64) (M' : Mm) (h : f_X8_paid p0 p1 p2 M = some (x, M')) : Ctr yX8_paid cX8_paid 6 (some .long) rX8_paid (fun _ => [.ref p0, .int p1, .int p2]) M (zL x) M' := by
  refine ctr_of (plainFor_of_name (by decide)) (fun _ => Nat.le_of_ble_eq_true rfl) (fun z hz hin hq => ?_)
  have key : Sim z 0 [(0, .ref p0), (1, .int p1), (2, .int p2)] [] M 0 0 (f_X8_paid p0 p1 p2 M) (fun a b => a = x ∧ b = M') := by
    have hq : Ret z zL (fun a b => a = x ∧ b = M') := fun a b e => by rw [e.1, e.2]; exact hq
    unfold f_X8_paid
    refine r_aload_n hz dX8_paid_0 0 rfl ?_
    refine r_iconst (v := 0) hz dX8_paid_1 rfl ?_
    refine r_putI (j := 0) cl8 hz dX8_paid_2 (by decide) wm_5_56 (Or.inl rfl) rfl rfl rfl ?_
    refine r_nmM (fun M1 => ?_)
    refine r_aload_n hz dX8_paid_5 0 rfl ?_
    refine r_iload_n hz dX8_paid_6 1 rfl ?_
    refine r_callVi (As := fun _ => [.int p1]) cl8 hz (fun _ _ h => t_X8_isLoan _ _ _ _ _ h) cal_X8_isLoan dX8_paid_7 wm_6_79 wm_6_81 wm_p_67 rfl rfl (Nat.le_of_ble_eq_true rfl) ⟨(Nat.le_of_ble_eq_true rfl), (Nat.le_of_ble_eq_true rfl)⟩ ⟨(Nat.le_of_ble_eq_true rfl), (Nat.le_of_ble_eq_true rfl)⟩ (fun v3 M2 => ?_)
    refine r_if_eq (tgt := 25) hz dX8_paid_10 rfl ?_ ?_
    · refine r_ldc2 (v := -1) hz dX8_paid_25 wm_6_224 ?_
      exact r_lret hz hq dX8_paid_28 (Nat.le_of_ble_eq_true rfl) (Nat.le_of_ble_eq_true rfl)
    · refine r_iload_n hz dX8_paid_13 2 rfl ?_
      refine r_i2l hz dX8_paid_14 ?_
      refine r_lconst (v := 0) hz dX8_paid_15 rfl ?_
      refine r_ldc2 (v := 5) hz dX8_paid_16 wm_6_211 ?_
      refine r_callSi (As := fun _ => [.long (p2).toInt64, .long (0 : Int64), .long (5 : Int64)]) hz (fun _ _ h => t_X8_within _ _ _ _ _ _ h) cal_X8_within dX8_paid_19 wm_5_175 wm_5_176 rfl rfl (Nat.le_of_ble_eq_true rfl) ⟨(Nat.le_of_ble_eq_true rfl), (Nat.le_of_ble_eq_true rfl)⟩ ⟨(Nat.le_of_ble_eq_true rfl), (Nat.le_of_ble_eq_true rfl)⟩ (fun v5 M4 => ?_)
      refine r_if_ne (tgt := 29) hz dX8_paid_22 rfl ?_ ?_
      · refine r_iload_n hz dX8_paid_29 2 rfl ?_
        refine r_iconst (v := 4) hz dX8_paid_30 rfl ?_
        refine r_icmp_eq (tgt := 51) hz dX8_paid_31 rfl ?_ ?_
        · refine r_lconst (v := 0) hz dX8_paid_51 rfl ?_
          refine r_lstore_n (lv' := [(3, .long (0 : Int64)), (0, .ref p0), (1, .int p1), (2, .int p2)]) hz dX8_paid_52 (by decide) rfl ?_
          refine r_iconst (v := 1) hz dX8_paid_53 rfl ?_
          refine r_istore (lv' := [(5, .int (1 : Int32)), (3, .long (0 : Int64)), (0, .ref p0), (1, .int p1), (2, .int p2)]) hz dX8_paid_54 (by decide) rfl ?_
          refine r_sub [2, 3, 1, 0] rfl ?_
          exact s_X8_paid_56 hz hq FU p0 p1 (0 : Int64) (1 : Int32) M4
        · refine r_aload_n hz dX8_paid_34 0 rfl ?_
          refine r_getR (j := 17) cl8 hz dX8_paid_35 (by decide) wm_5_73 rfl (fun q6 => ?_)
          refine r_sipush (v := 1383) hz dX8_paid_38 rfl ?_
          refine r_bipush (v := 6) hz dX8_paid_41 rfl ?_
          refine r_iload_n hz dX8_paid_43 1 rfl ?_
          refine r_imul hz dX8_paid_44 ?_
          refine r_iadd hz dX8_paid_45 ?_
          refine r_iload_n hz dX8_paid_46 2 rfl ?_
          refine r_iadd hz dX8_paid_47 ?_
          refine r_iald hz dX8_paid_48 ?_
          refine r_i2l hz dX8_paid_49 ?_
          exact r_lret hz hq dX8_paid_50 (Nat.le_of_ble_eq_true rfl) (Nat.le_of_ble_eq_true rfl)
      · refine r_ldc2 (v := -1) hz dX8_paid_25 wm_6_224 ?_
        exact r_lret hz hq dX8_paid_28 (Nat.le_of_ble_eq_true rfl) (Nat.le_of_ble_eq_true rfl)
  exact key x M' h ⟨rfl, rfl⟩
