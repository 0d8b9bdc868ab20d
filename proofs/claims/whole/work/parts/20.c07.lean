theorem dX7_toPay_0 : decode cX7_toPay 0 = .ok (.aload_n 0, 1) := by decide +kernel
theorem dX7_toPay_1 : decode cX7_toPay 1 = .ok (.iload_n 1, 1) := by decide +kernel
theorem dX7_toPay_2 : decode cX7_toPay 2 = .ok (.invokevirtual 116, 3) := by decide +kernel
theorem dX7_toPay_5 : decode cX7_toPay 5 = .ok (.ifCond .ne 7, 3) := by decide +kernel
theorem dX7_toPay_8 : decode cX7_toPay 8 = .ok (.ldc2_w 267, 3) := by decide +kernel
theorem dX7_toPay_11 : decode cX7_toPay 11 = .ok (.lreturn, 1) := by decide +kernel
theorem dX7_toPay_12 : decode cX7_toPay 12 = .ok (.aload_n 0, 1) := by decide +kernel
theorem dX7_toPay_13 : decode cX7_toPay 13 = .ok (.getfield 52, 3) := by decide +kernel
theorem dX7_toPay_16 : decode cX7_toPay 16 = .ok (.aload_n 0, 1) := by decide +kernel
theorem dX7_toPay_17 : decode cX7_toPay 17 = .ok (.getfield 10, 3) := by decide +kernel
theorem dX7_toPay_20 : decode cX7_toPay 20 = .ok (.aload_n 0, 1) := by decide +kernel
theorem dX7_toPay_21 : decode cX7_toPay 21 = .ok (.getfield 19, 3) := by decide +kernel
theorem dX7_toPay_24 : decode cX7_toPay 24 = .ok (.iload_n 1, 1) := by decide +kernel
theorem dX7_toPay_25 : decode cX7_toPay 25 = .ok (.invokevirtual 208, 3) := by decide +kernel
theorem dX7_toPay_28 : decode cX7_toPay 28 = .ok (.lconst 0, 1) := by decide +kernel
theorem dX7_toPay_29 : decode cX7_toPay 29 = .ok (.lstore_n 2, 1) := by decide +kernel
theorem dX7_toPay_30 : decode cX7_toPay 30 = .ok (.aload_n 0, 1) := by decide +kernel
theorem dX7_toPay_31 : decode cX7_toPay 31 = .ok (.getfield 52, 3) := by decide +kernel
theorem dX7_toPay_34 : decode cX7_toPay 34 = .ok (.getfield 269, 3) := by decide +kernel
theorem dX7_toPay_37 : decode cX7_toPay 37 = .ok (.istore 4, 2) := by decide +kernel
theorem dX7_toPay_39 : decode cX7_toPay 39 = .ok (.iload 4, 2) := by decide +kernel
theorem dX7_toPay_41 : decode cX7_toPay 41 = .ok (.aload_n 0, 1) := by decide +kernel
theorem dX7_toPay_42 : decode cX7_toPay 42 = .ok (.getfield 52, 3) := by decide +kernel
theorem dX7_toPay_45 : decode cX7_toPay 45 = .ok (.getfield 272, 3) := by decide +kernel
theorem dX7_toPay_48 : decode cX7_toPay 48 = .ok (.if_icmp .gt 22, 3) := by decide +kernel
theorem dX7_toPay_51 : decode cX7_toPay 51 = .ok (.lload_n 2, 1) := by decide +kernel
theorem dX7_toPay_52 : decode cX7_toPay 52 = .ok (.aload_n 0, 1) := by decide +kernel
theorem dX7_toPay_53 : decode cX7_toPay 53 = .ok (.getfield 52, 3) := by decide +kernel
theorem dX7_toPay_56 : decode cX7_toPay 56 = .ok (.iload 4, 2) := by decide +kernel
theorem dX7_toPay_58 : decode cX7_toPay 58 = .ok (.invokevirtual 275, 3) := by decide +kernel
theorem dX7_toPay_61 : decode cX7_toPay 61 = .ok (.i2l, 1) := by decide +kernel
theorem dX7_toPay_62 : decode cX7_toPay 62 = .ok (.ladd, 1) := by decide +kernel
theorem dX7_toPay_63 : decode cX7_toPay 63 = .ok (.lstore_n 2, 1) := by decide +kernel
theorem dX7_toPay_64 : decode cX7_toPay 64 = .ok (.iinc 4 1, 3) := by decide +kernel
theorem dX7_toPay_67 : decode cX7_toPay 67 = .ok (.goto (-28), 3) := by decide +kernel
theorem dX7_toPay_70 : decode cX7_toPay 70 = .ok (.lload_n 2, 1) := by decide +kernel
theorem dX7_toPay_71 : decode cX7_toPay 71 = .ok (.lreturn, 1) := by decide +kernel
abbrev rX7_toPay : Room := { frames := 4, cells := 0, slots := 0, locals := 92 }
theorem cal_X7_toPay : CalOk yX7_toPay cX7_toPay 5 (some .long) 1 := ⟨wm_4_73, wm_1_1, by decide, by decide, by decide +kernel⟩
def f_X7_toPay_39 : Nat → Nat → Int64 → Int32 → Mm → Option (Int64 × Mm)
  | 0, _, _, _, _ => none
  | n + 1, x0, x2, x4, M =>
    ck (gK M x0 = 7) (bR (gR M x0 8) fun q1 => ck (gK M q1 = 4) ((if (gI M q1 9) < x4 then
      some (x2, M)
    else
      ck (gK M x0 = 7) (bR (gR M x0 8) fun q2 => ck (gK M q2 = 4) (bd (f_X4_payment q2 x4 M) fun v4 M3 =>
      nm (x2 + (v4).toInt64) fun v5 =>
      f_X7_toPay_39 n x0 v5 (x4 + (1 : Int32)) M3)))))
set_option maxRecDepth 20000 in
set_option maxHeartbeats 4000000 in
theorem s_X7_toPay_39 {z : Zt} {K : Int64 → Mm → Prop} (hz : Good z RX7 cX7_toPay 5 rX7_toPay (some .long)) (hq : Ret z zL K) : ∀ (n : Nat) (x0 : Nat) (x2 : Int64) (x4 : Int32) (M : Mm), Sim z 39 [(0, .ref x0), (2, .long x2), (4, .int x4)] [] M 0 0 (f_X7_toPay_39 n x0 x2 x4 M) K := by
  intro n
  induction n with
  | zero => exact fun _ _ _ _ => r_none
  | succ n ih =>
    intro x0 x2 x4 M
    unfold f_X7_toPay_39
    refine r_iload hz dX7_toPay_39 2 rfl ?_
    refine r_aload_n hz dX7_toPay_41 0 rfl ?_
    refine r_getR (j := 8) cl7 hz dX7_toPay_42 (by decide) wm_2_112 rfl (fun q1 => ?_)
    refine r_getI (j := 9) cl4 hz dX7_toPay_45 (by decide) wm_2_6 rfl ?_
    refine r_icmp_gt (tgt := 70) hz dX7_toPay_48 rfl ?_ ?_
    · refine r_lload_n hz dX7_toPay_70 1 rfl ?_
      exact r_lret hz hq dX7_toPay_71 (Nat.le_of_ble_eq_true rfl) (Nat.le_of_ble_eq_true rfl)
    · refine r_lload_n hz dX7_toPay_51 1 rfl ?_
      refine r_aload_n hz dX7_toPay_52 0 rfl ?_
      refine r_getR (j := 8) cl7 hz dX7_toPay_53 (by decide) wm_2_112 rfl (fun q2 => ?_)
      refine r_iload hz dX7_toPay_56 2 rfl ?_
      refine r_callVi (As := fun _ => [.int x4]) cl4 hz (fun _ _ h => t_X4_payment _ _ _ _ _ h) cal_X4_payment dX7_toPay_58 wm_4_75 wm_4_76 wm_4_77 rfl rfl (Nat.le_of_ble_eq_true rfl) ⟨(Nat.le_of_ble_eq_true rfl), (Nat.le_of_ble_eq_true rfl)⟩ ⟨(Nat.le_of_ble_eq_true rfl), (Nat.le_of_ble_eq_true rfl)⟩ (fun v4 M3 => ?_)
      refine r_i2l hz dX7_toPay_61 ?_
      refine r_ladd hz dX7_toPay_62 ?_
      refine r_nml (fun v5 => ?_)
      refine r_lstore_n (lv' := [(2, .long v5), (0, .ref x0), (4, .int x4)]) hz dX7_toPay_63 (by decide) rfl ?_
      refine r_iinc (v := (x4 + (1 : Int32))) (lv' := [(4, .int (x4 + (1 : Int32))), (2, .long v5), (0, .ref x0)]) hz dX7_toPay_64 2 rfl rfl (by decide) rfl ?_
      refine r_goto (tgt := 39) hz dX7_toPay_67 rfl ?_
      refine r_sub [2, 1, 0] rfl ?_
      exact ih x0 v5 (x4 + (1 : Int32)) M3
def f_X7_toPay (p0 : Nat) (p1 : Int32) (M : Mm) : Option (Int64 × Mm) :=
  ck (gK M p0 = 7) (bd (f_X7_isLoan p0 p1 M) fun v2 M1 =>
  (if ¬ v2 = 0 then
    ck (gK M1 p0 = 7) (bR (gR M1 p0 8) fun q3 => ck (gK M1 p0 = 7) (bR (gR M1 p0 0) fun q4 => ck (gK M1 p0 = 7) (bR (gR M1 p0 1) fun q5 => ck (gK M1 q3 = 4) (bd (f_X4_foresee q3 q4 q5 p1 M1) fun _ M6 =>
    ck (gK M6 p0 = 7) (bR (gR M6 p0 8) fun q7 => ck (gK M6 q7 = 4) (nm (gI M6 q7 8) fun v8 =>
    f_X7_toPay_39 FU p0 (0 : Int64) v8 M6))))))
  else
    some ((-1 : Int64), M1)))
set_option maxRecDepth 20000 in
set_option maxHeartbeats 4000000 in
theorem t_X7_toPay (p0 : Nat) (p1 : Int32) (M : Mm) (x : Int64) (M' : Mm) (h : f_X7_toPay p0 p1 M = some (x, M')) : Ctr yX7_toPay cX7_toPay 5 (some .long) rX7_toPay (fun _ => [.ref p0, .int p1]) M (zL x) M' := by
  refine ctr_of (plainFor_of_name (by decide)) (fun _ => Nat.le_of_ble_eq_true rfl) (fun z hz hin hq => ?_)
  have key : Sim z 0 [(0, .ref p0), (1, .int p1)] [] M 0 0 (f_X7_toPay p0 p1 M) (fun a b => a = x ∧ b = M') := by
    have hq : Ret z zL (fun a b => a = x ∧ b = M') := fun a b e => by rw [e.1, e.2]; exact hq
    unfold f_X7_toPay
    refine r_aload_n hz dX7_toPay_0 0 rfl ?_
    refine r_iload_n hz dX7_toPay_1 1 rfl ?_
    refine r_callVi (As := fun _ => [.int p1]) cl7 hz (fun _ _ h => t_X7_isLoan _ _ _ _ _ h) cal_X7_isLoan dX7_toPay_2 wm_3_149 wm_3_151 wm_p_25 rfl rfl (Nat.le_of_ble_eq_true rfl) ⟨(Nat.le_of_ble_eq_true rfl), (Nat.le_of_ble_eq_true rfl)⟩ ⟨(Nat.le_of_ble_eq_true rfl), (Nat.le_of_ble_eq_true rfl)⟩ (fun v2 M1 => ?_)
    refine r_if_ne (tgt := 12) hz dX7_toPay_5 rfl ?_ ?_
    · refine r_aload_n hz dX7_toPay_12 0 rfl ?_
      refine r_getR (j := 8) cl7 hz dX7_toPay_13 (by decide) wm_2_112 rfl (fun q3 => ?_)
      refine r_aload_n hz dX7_toPay_16 0 rfl ?_
      refine r_getR (j := 0) cl7 hz dX7_toPay_17 (by decide) wm_2_104 rfl (fun q4 => ?_)
      refine r_aload_n hz dX7_toPay_20 0 rfl ?_
      refine r_getR (j := 1) cl7 hz dX7_toPay_21 (by decide) wm_2_105 rfl (fun q5 => ?_)
      refine r_iload_n hz dX7_toPay_24 1 rfl ?_
      refine r_callVv (As := fun _ => [.ref q4, .ref q5, .int p1]) cl4 hz (fun _ _ h => t_X4_foresee _ _ _ _ _ _ _ h) cal_X4_foresee dX7_toPay_25 wm_3_208 wm_3_209 wm_3_210 rfl rfl (Nat.le_of_ble_eq_true rfl) ⟨(Nat.le_of_ble_eq_true rfl), (Nat.le_of_ble_eq_true rfl)⟩ ⟨(Nat.le_of_ble_eq_true rfl), (Nat.le_of_ble_eq_true rfl)⟩ (fun _ M6 => ?_)
      refine r_lconst (v := 0) hz dX7_toPay_28 rfl ?_
      refine r_lstore_n (lv' := [(2, .long (0 : Int64)), (0, .ref p0), (1, .int p1)]) hz dX7_toPay_29 (by decide) rfl ?_
      refine r_aload_n hz dX7_toPay_30 1 rfl ?_
      refine r_getR (j := 8) cl7 hz dX7_toPay_31 (by decide) wm_2_112 rfl (fun q7 => ?_)
      refine r_getI (j := 8) cl4 hz dX7_toPay_34 (by decide) wm_2_3 rfl ?_
      refine r_nmi (fun v8 => ?_)
      refine r_istore (lv' := [(4, .int v8), (2, .long (0 : Int64)), (0, .ref p0), (1, .int p1)]) hz dX7_toPay_37 (by decide) rfl ?_
      refine r_sub [2, 1, 0] rfl ?_
      exact s_X7_toPay_39 hz hq FU p0 (0 : Int64) v8 M6
    · refine r_ldc2 (v := -1) hz dX7_toPay_8 wm_4_74 ?_
      exact r_lret hz hq dX7_toPay_11 (Nat.le_of_ble_eq_true rfl) (Nat.le_of_ble_eq_true rfl)
  exact key x M' h ⟨rfl, rfl⟩
theorem dX7_foreseeStanding_0 : decode cX7_foreseeStanding 0 = .ok (.aload_n 0, 1) := by decide +kernel
theorem dX7_foreseeStanding_1 : decode cX7_foreseeStanding 1 = .ok (.iload_n 1, 1) := by decide +kernel
theorem dX7_foreseeStanding_2 : decode cX7_foreseeStanding 2 = .ok (.invokevirtual 116, 3) := by decide +kernel
theorem dX7_foreseeStanding_5 : decode cX7_foreseeStanding 5 = .ok (.ifCond .ne 5, 3) := by decide +kernel
theorem dX7_foreseeStanding_8 : decode cX7_foreseeStanding 8 = .ok (.iconst 0, 1) := by decide +kernel
theorem dX7_foreseeStanding_9 : decode cX7_foreseeStanding 9 = .ok (.ireturn, 1) := by decide +kernel
theorem dX7_foreseeStanding_10 : decode cX7_foreseeStanding 10 = .ok (.aload_n 0, 1) := by decide +kernel
theorem dX7_foreseeStanding_11 : decode cX7_foreseeStanding 11 = .ok (.getfield 52, 3) := by decide +kernel
theorem dX7_foreseeStanding_14 : decode cX7_foreseeStanding 14 = .ok (.aload_n 0, 1) := by decide +kernel
theorem dX7_foreseeStanding_15 : decode cX7_foreseeStanding 15 = .ok (.getfield 10, 3) := by decide +kernel
theorem dX7_foreseeStanding_18 : decode cX7_foreseeStanding 18 = .ok (.aload_n 0, 1) := by decide +kernel
theorem dX7_foreseeStanding_19 : decode cX7_foreseeStanding 19 = .ok (.getfield 19, 3) := by decide +kernel
theorem dX7_foreseeStanding_22 : decode cX7_foreseeStanding 22 = .ok (.iload_n 1, 1) := by decide +kernel
theorem dX7_foreseeStanding_23 : decode cX7_foreseeStanding 23 = .ok (.invokevirtual 208, 3) := by decide +kernel
theorem dX7_foreseeStanding_26 : decode cX7_foreseeStanding 26 = .ok (.aload_n 0, 1) := by decide +kernel
theorem dX7_foreseeStanding_27 : decode cX7_foreseeStanding 27 = .ok (.getfield 52, 3) := by decide +kernel
theorem dX7_foreseeStanding_30 : decode cX7_foreseeStanding 30 = .ok (.getfield 281, 3) := by decide +kernel
theorem dX7_foreseeStanding_33 : decode cX7_foreseeStanding 33 = .ok (.ifCond .le 7, 3) := by decide +kernel
theorem dX7_foreseeStanding_36 : decode cX7_foreseeStanding 36 = .ok (.iconst 1, 1) := by decide +kernel
theorem dX7_foreseeStanding_37 : decode cX7_foreseeStanding 37 = .ok (.goto 4, 3) := by decide +kernel
theorem dX7_foreseeStanding_40 : decode cX7_foreseeStanding 40 = .ok (.iconst 0, 1) := by decide +kernel
theorem dX7_foreseeStanding_41 : decode cX7_foreseeStanding 41 = .ok (.ireturn, 1) := by decide +kernel
abbrev rX7_foreseeStanding : Room := { frames := 4, cells := 0, slots := 0, locals := 92 }
theorem cal_X7_foreseeStanding : CalOk yX7_foreseeStanding cX7_foreseeStanding 2 (some .boolean) 1 := ⟨wm_4_86, wm_1_1, by decide, by decide, by decide +kernel⟩
def f_X7_foreseeStanding (p0 : Nat) (p1 : Int32) (M : Mm) : Option (Int32 × Mm) :=
  ck (gK M p0 = 7) (bd (f_X7_isLoan p0 p1 M) fun v2 M1 =>
  (if ¬ v2 = 0 then
    ck (gK M1 p0 = 7) (bR (gR M1 p0 8) fun q3 => ck (gK M1 p0 = 7) (bR (gR M1 p0 0) fun q4 => ck (gK M1 p0 = 7) (bR (gR M1 p0 1) fun q5 => ck (gK M1 q3 = 4) (bd (f_X4_foresee q3 q4 q5 p1 M1) fun _ M6 =>
    ck (gK M6 p0 = 7) (bR (gR M6 p0 8) fun q7 => ck (gK M6 q7 = 4) ((if (gI M6 q7 10) ≤ 0 then
      some ((0 : Int32), M6)
    else
      some ((1 : Int32), M6))))))))
  else
    some ((0 : Int32), M1)))
set_option maxRecDepth 20000 in
set_option maxHeartbeats 4000000 in
theorem t_X7_foreseeStanding (p0 : Nat) (p1 : Int32) (M : Mm) (x : Int32) (M' : Mm) (h : f_X7_foreseeStanding p0 p1 M = some (x, M')) : Ctr yX7_foreseeStanding cX7_foreseeStanding 2 (some .boolean) rX7_foreseeStanding (fun _ => [.ref p0, .int p1]) M (zI x) M' := by
  refine ctr_of (plainFor_of_name (by decide)) (fun _ => Nat.le_of_ble_eq_true rfl) (fun z hz hin hq => ?_)
  have key : Sim z 0 [(0, .ref p0), (1, .int p1)] [] M 0 0 (f_X7_foreseeStanding p0 p1 M) (fun a b => a = x ∧ b = M') := by
    have hq : Ret z zI (fun a b => a = x ∧ b = M') := fun a b e => by rw [e.1, e.2]; exact hq
    unfold f_X7_foreseeStanding
    refine r_aload_n hz dX7_foreseeStanding_0 0 rfl ?_
    refine r_iload_n hz dX7_foreseeStanding_1 1 rfl ?_
    refine r_callVi (As := fun _ => [.int p1]) cl7 hz (fun _ _ h => t_X7_isLoan _ _ _ _ _ h) cal_X7_isLoan dX7_foreseeStanding_2 wm_3_149 wm_3_151 wm_p_25 rfl rfl (Nat.le_of_ble_eq_true rfl) ⟨(Nat.le_of_ble_eq_true rfl), (Nat.le_of_ble_eq_true rfl)⟩ ⟨(Nat.le_of_ble_eq_true rfl), (Nat.le_of_ble_eq_true rfl)⟩ (fun v2 M1 => ?_)
    refine r_if_ne (tgt := 10) hz dX7_foreseeStanding_5 rfl ?_ ?_
    · refine r_aload_n hz dX7_foreseeStanding_10 0 rfl ?_
      refine r_getR (j := 8) cl7 hz dX7_foreseeStanding_11 (by decide) wm_2_112 rfl (fun q3 => ?_)
      refine r_aload_n hz dX7_foreseeStanding_14 0 rfl ?_
      refine r_getR (j := 0) cl7 hz dX7_foreseeStanding_15 (by decide) wm_2_104 rfl (fun q4 => ?_)
      refine r_aload_n hz dX7_foreseeStanding_18 0 rfl ?_
      refine r_getR (j := 1) cl7 hz dX7_foreseeStanding_19 (by decide) wm_2_105 rfl (fun q5 => ?_)
      refine r_iload_n hz dX7_foreseeStanding_22 1 rfl ?_
      refine r_callVv (As := fun _ => [.ref q4, .ref q5, .int p1]) cl4 hz (fun _ _ h => t_X4_foresee _ _ _ _ _ _ _ h) cal_X4_foresee dX7_foreseeStanding_23 wm_3_208 wm_3_209 wm_3_210 rfl rfl (Nat.le_of_ble_eq_true rfl) ⟨(Nat.le_of_ble_eq_true rfl), (Nat.le_of_ble_eq_true rfl)⟩ ⟨(Nat.le_of_ble_eq_true rfl), (Nat.le_of_ble_eq_true rfl)⟩ (fun _ M6 => ?_)
      refine r_aload_n hz dX7_foreseeStanding_26 0 rfl ?_
      refine r_getR (j := 8) cl7 hz dX7_foreseeStanding_27 (by decide) wm_2_112 rfl (fun q7 => ?_)
      refine r_getI (j := 10) cl4 hz dX7_foreseeStanding_30 (by decide) wm_2_9 rfl ?_
      refine r_if_le (tgt := 40) hz dX7_foreseeStanding_33 rfl ?_ ?_
      · refine r_iconst (v := 0) hz dX7_foreseeStanding_40 rfl ?_
        exact r_zret hz hq dX7_foreseeStanding_41 (Or.inl rfl) (Nat.le_of_ble_eq_true rfl) (Nat.le_of_ble_eq_true rfl)
      · refine r_iconst (v := 1) hz dX7_foreseeStanding_36 rfl ?_
        refine r_goto (tgt := 41) hz dX7_foreseeStanding_37 rfl ?_
        exact r_zret hz hq dX7_foreseeStanding_41 (Or.inr rfl) (Nat.le_of_ble_eq_true rfl) (Nat.le_of_ble_eq_true rfl)
    · refine r_iconst (v := 0) hz dX7_foreseeStanding_8 rfl ?_
      exact r_zret hz hq dX7_foreseeStanding_9 (Or.inl rfl) (Nat.le_of_ble_eq_true rfl) (Nat.le_of_ble_eq_true rfl)
  exact key x M' h ⟨rfl, rfl⟩
theorem dX7_tell_0 : decode cX7_tell 0 = .ok (.lload_n 1, 1) := by decide +kernel
theorem dX7_tell_1 : decode cX7_tell 1 = .ok (.lload_n 3, 1) := by decide +kernel
theorem dX7_tell_2 : decode cX7_tell 2 = .ok (.invokestatic 323, 3) := by decide +kernel
theorem dX7_tell_5 : decode cX7_tell 5 = .ok (.lstore 5, 2) := by decide +kernel
theorem dX7_tell_7 : decode cX7_tell 7 = .ok (.lload 5, 2) := by decide +kernel
theorem dX7_tell_9 : decode cX7_tell 9 = .ok (.lconst 0, 1) := by decide +kernel
theorem dX7_tell_10 : decode cX7_tell 10 = .ok (.lcmp, 1) := by decide +kernel
theorem dX7_tell_11 : decode cX7_tell 11 = .ok (.ifCond .gt 10, 3) := by decide +kernel
theorem dX7_tell_14 : decode cX7_tell 14 = .ok (.aload_n 0, 1) := by decide +kernel
theorem dX7_tell_15 : decode cX7_tell 15 = .ok (.lconst 1, 1) := by decide +kernel
theorem dX7_tell_16 : decode cX7_tell 16 = .ok (.putfield 38, 3) := by decide +kernel
theorem dX7_tell_19 : decode cX7_tell 19 = .ok (.lconst 0, 1) := by decide +kernel
theorem dX7_tell_20 : decode cX7_tell 20 = .ok (.lreturn, 1) := by decide +kernel
theorem dX7_tell_21 : decode cX7_tell 21 = .ok (.aload_n 0, 1) := by decide +kernel
theorem dX7_tell_22 : decode cX7_tell 22 = .ok (.lload_n 3, 1) := by decide +kernel
theorem dX7_tell_23 : decode cX7_tell 23 = .ok (.lload 5, 2) := by decide +kernel
theorem dX7_tell_25 : decode cX7_tell 25 = .ok (.ldiv, 1) := by decide +kernel
theorem dX7_tell_26 : decode cX7_tell 26 = .ok (.putfield 38, 3) := by decide +kernel
theorem dX7_tell_29 : decode cX7_tell 29 = .ok (.lload_n 1, 1) := by decide +kernel
theorem dX7_tell_30 : decode cX7_tell 30 = .ok (.lload 5, 2) := by decide +kernel
theorem dX7_tell_32 : decode cX7_tell 32 = .ok (.ldiv, 1) := by decide +kernel
theorem dX7_tell_33 : decode cX7_tell 33 = .ok (.lreturn, 1) := by decide +kernel
abbrev rX7_tell : Room := { frames := 1, cells := 0, slots := 0, locals := 30 }
theorem cal_X7_tell : CalOk yX7_tell cX7_tell 7 (some .long) 2 := ⟨wm_4_90, wm_1_1, by decide, by decide, by decide +kernel⟩
def f_X7_tell (p0 : Nat) (p1 : Int64) (p3 : Int64) (M : Mm) : Option (Int64 × Mm) :=
  bd (f_X7_commonDivisor p1 p3 M) fun v2 M1 =>
  (if (0 : Int64) < v2 then
    ck (¬ v2 = 0) (ck (gK M1 p0 = 7) (nm (sL M1 p0 6 (p3 / v2)) fun M3 =>
    ck (¬ v2 = 0) (some ((p1 / v2), M3))))
  else
    ck (gK M1 p0 = 7) (nm (sL M1 p0 6 (1 : Int64)) fun M4 =>
    some ((0 : Int64), M4)))
set_option maxRecDepth 20000 in
set_option maxHeartbeats 4000000 in
theorem t_X7_tell (p0 : Nat) (p1 : Int64) (p3 : Int64) (M : Mm) (x : Int64) (M' : Mm) (h : f_X7_tell p0 p1 p3 M = some (x, M')) : Ctr yX7_tell cX7_tell 7 (some .long) rX7_tell (fun _ => [.ref p0, .long p1, .long p3]) M (zL x) M' := by
  refine ctr_of (plainFor_of_name (by decide)) (fun _ => Nat.le_of_ble_eq_true rfl) (fun z hz hin hq => ?_)
  have key : Sim z 0 [(0, .ref p0), (1, .long p1), (3, .long p3)] [] M 0 0 (f_X7_tell p0 p1 p3 M) (fun a b => a = x ∧ b = M') := by
    have hq : Ret z zL (fun a b => a = x ∧ b = M') := fun a b e => by rw [e.1, e.2]; exact hq
    unfold f_X7_tell
    refine r_lload_n hz dX7_tell_0 1 rfl ?_
    refine r_lload_n hz dX7_tell_1 2 rfl ?_
    refine r_callSl (As := fun _ => [.long p1, .long p3]) hz (fun _ _ h => t_X7_commonDivisor _ _ _ _ _ h) cal_X7_commonDivisor dX7_tell_2 wm_4_91 wm_4_92 rfl rfl (Nat.le_of_ble_eq_true rfl) ⟨(Nat.le_of_ble_eq_true rfl), (Nat.le_of_ble_eq_true rfl)⟩ ⟨(Nat.le_of_ble_eq_true rfl), (Nat.le_of_ble_eq_true rfl)⟩ (fun v2 M1 => ?_)
    refine r_lstore (lv' := [(5, .long v2), (0, .ref p0), (1, .long p1), (3, .long p3)]) hz dX7_tell_5 (by decide) rfl ?_
    refine r_lload hz dX7_tell_7 0 rfl ?_
    refine r_lconst (v := 0) hz dX7_tell_9 rfl ?_
    refine r_lcmp_gt (tgt := 21) hz dX7_tell_10 dX7_tell_11 rfl ?_ ?_
    · refine r_aload_n hz dX7_tell_21 1 rfl ?_
      refine r_lload_n hz dX7_tell_22 3 rfl ?_
      refine r_lload hz dX7_tell_23 0 rfl ?_
      refine r_ldiv hz dX7_tell_25 ?_
      refine r_putL (j := 6) cl7 hz dX7_tell_26 (by decide) wm_2_110 (Or.inl rfl) rfl rfl rfl ?_
      refine r_nmM (fun M3 => ?_)
      refine r_lload_n hz dX7_tell_29 2 rfl ?_
      refine r_lload hz dX7_tell_30 0 rfl ?_
      refine r_ldiv hz dX7_tell_32 ?_
      exact r_lret hz hq dX7_tell_33 (Nat.le_of_ble_eq_true rfl) (Nat.le_of_ble_eq_true rfl)
    · refine r_aload_n hz dX7_tell_14 1 rfl ?_
      refine r_lconst (v := 1) hz dX7_tell_15 rfl ?_
      refine r_putL (j := 6) cl7 hz dX7_tell_16 (by decide) wm_2_110 (Or.inl rfl) rfl rfl rfl ?_
      refine r_nmM (fun M4 => ?_)
      refine r_lconst (v := 0) hz dX7_tell_19 rfl ?_
      exact r_lret hz hq dX7_tell_20 (Nat.le_of_ble_eq_true rfl) (Nat.le_of_ble_eq_true rfl)
  exact key x M' h ⟨rfl, rfl⟩
theorem dX7_odds_0 : decode cX7_odds 0 = .ok (.aload_n 0, 1) := by decide +kernel
theorem dX7_odds_1 : decode cX7_odds 1 = .ok (.iload_n 1, 1) := by decide +kernel
theorem dX7_odds_2 : decode cX7_odds 2 = .ok (.iload_n 2, 1) := by decide +kernel
theorem dX7_odds_3 : decode cX7_odds 3 = .ok (.invokevirtual 253, 3) := by decide +kernel
theorem dX7_odds_6 : decode cX7_odds 6 = .ok (.ifCond .eq 11, 3) := by decide +kernel
theorem dX7_odds_9 : decode cX7_odds 9 = .ok (.aload_n 0, 1) := by decide +kernel
theorem dX7_odds_10 : decode cX7_odds 10 = .ok (.iload_n 1, 1) := by decide +kernel
theorem dX7_odds_11 : decode cX7_odds 11 = .ok (.invokevirtual 278, 3) := by decide +kernel
theorem dX7_odds_14 : decode cX7_odds 14 = .ok (.ifCond .ne 7, 3) := by decide +kernel
theorem dX7_odds_17 : decode cX7_odds 17 = .ok (.ldc2_w 267, 3) := by decide +kernel
theorem dX7_odds_20 : decode cX7_odds 20 = .ok (.lreturn, 1) := by decide +kernel
theorem dX7_odds_21 : decode cX7_odds 21 = .ok (.aload_n 0, 1) := by decide +kernel
theorem dX7_odds_22 : decode cX7_odds 22 = .ok (.aload_n 0, 1) := by decide +kernel
theorem dX7_odds_23 : decode cX7_odds 23 = .ok (.getfield 52, 3) := by decide +kernel
theorem dX7_odds_26 : decode cX7_odds 26 = .ok (.getfield 225, 3) := by decide +kernel
theorem dX7_odds_29 : decode cX7_odds 29 = .ok (.iload_n 2, 1) := by decide +kernel
theorem dX7_odds_30 : decode cX7_odds 30 = .ok (.iaload, 1) := by decide +kernel
theorem dX7_odds_31 : decode cX7_odds 31 = .ok (.i2l, 1) := by decide +kernel
theorem dX7_odds_32 : decode cX7_odds 32 = .ok (.aload_n 0, 1) := by decide +kernel
theorem dX7_odds_33 : decode cX7_odds 33 = .ok (.getfield 52, 3) := by decide +kernel
theorem dX7_odds_36 : decode cX7_odds 36 = .ok (.getfield 281, 3) := by decide +kernel
theorem dX7_odds_39 : decode cX7_odds 39 = .ok (.i2l, 1) := by decide +kernel
theorem dX7_odds_40 : decode cX7_odds 40 = .ok (.invokevirtual 284, 3) := by decide +kernel
theorem dX7_odds_43 : decode cX7_odds 43 = .ok (.lreturn, 1) := by decide +kernel
abbrev rX7_odds : Room := { frames := 5, cells := 0, slots := 0, locals := 113 }
theorem cal_X7_odds : CalOk yX7_odds cX7_odds 3 (some .long) 2 := ⟨wm_4_82, wm_1_1, by decide, by decide, by decide +kernel⟩
def f_X7_odds (p0 : Nat) (p1 : Int32) (p2 : Int32) (M : Mm) : Option (Int64 × Mm) :=
  ck (gK M p0 = 7) (bd (f_X7_isToCome p0 p1 p2 M) fun v2 M1 =>
  (if v2 = 0 then
    some ((-1 : Int64), M1)
  else
    ck (gK M1 p0 = 7) (bd (f_X7_foreseeStanding p0 p1 M1) fun v4 M3 =>
    (if ¬ v4 = 0 then
      ck (gK M3 p0 = 7) (bR (gR M3 p0 8) fun q5 => ck (gK M3 q5 = 4) (bR (gR M3 q5 13) fun q6 => ck (gK M3 q6 = 10 ∧ inb p2 (gN M3 q6)) (ck (gK M3 p0 = 7) (bR (gR M3 p0 8) fun q7 => ck (gK M3 q7 = 4) (ck (gK M3 p0 = 7) (bd (f_X7_tell p0 ((gI M3 q6 (p2).toNatClampNeg)).toInt64 ((gI M3 q7 10)).toInt64 M3) fun v9 M8 =>
      some (v9, M8)))))))
    else
      some ((-1 : Int64), M3)))))
set_option maxRecDepth 20000 in
set_option maxHeartbeats 4000000 in
theorem t_X7_odds (p0 : Nat) (p1 : Int32) (p2 : Int32) (M : Mm) (x : Int64) (M' : Mm) (h : f_X7_odds p0 p1 p2 M = some (x, M')) : Ctr yX7_odds cX7_odds 3 (some .long) rX7_odds (fun _ => [.ref p0, .int p1, .int p2]) M (zL x) M' := by
  refine ctr_of (plainFor_of_name (by decide)) (fun _ => Nat.le_of_ble_eq_true rfl) (fun z hz hin hq => ?_)
  have key : Sim z 0 [(0, .ref p0), (1, .int p1), (2, .int p2)] [] M 0 0 (f_X7_odds p0 p1 p2 M) (fun a b => a = x ∧ b = M') := by
    have hq : Ret z zL (fun a b => a = x ∧ b = M') := fun a b e => by rw [e.1, e.2]; exact hq
    unfold f_X7_odds
    refine r_aload_n hz dX7_odds_0 0 rfl ?_
    refine r_iload_n hz dX7_odds_1 1 rfl ?_
    refine r_iload_n hz dX7_odds_2 2 rfl ?_
    refine r_callVi (As := fun _ => [.int p1, .int p2]) cl7 hz (fun _ _ h => t_X7_isToCome _ _ _ _ _ _ h) cal_X7_isToCome dX7_odds_3 wm_4_49 wm_4_51 wm_p_37 rfl rfl (Nat.le_of_ble_eq_true rfl) ⟨(Nat.le_of_ble_eq_true rfl), (Nat.le_of_ble_eq_true rfl)⟩ ⟨(Nat.le_of_ble_eq_true rfl), (Nat.le_of_ble_eq_true rfl)⟩ (fun v2 M1 => ?_)
    refine r_if_eq (tgt := 17) hz dX7_odds_6 rfl ?_ ?_
    · refine r_ldc2 (v := -1) hz dX7_odds_17 wm_4_74 ?_
      exact r_lret hz hq dX7_odds_20 (Nat.le_of_ble_eq_true rfl) (Nat.le_of_ble_eq_true rfl)
    · refine r_aload_n hz dX7_odds_9 0 rfl ?_
      refine r_iload_n hz dX7_odds_10 1 rfl ?_
      refine r_callVi (As := fun _ => [.int p1]) cl7 hz (fun _ _ h => t_X7_foreseeStanding _ _ _ _ _ h) cal_X7_foreseeStanding dX7_odds_11 wm_4_83 wm_4_85 wm_p_38 rfl rfl (Nat.le_of_ble_eq_true rfl) ⟨(Nat.le_of_ble_eq_true rfl), (Nat.le_of_ble_eq_true rfl)⟩ ⟨(Nat.le_of_ble_eq_true rfl), (Nat.le_of_ble_eq_true rfl)⟩ (fun v4 M3 => ?_)
      refine r_if_ne (tgt := 21) hz dX7_odds_14 rfl ?_ ?_
      · refine r_aload_n hz dX7_odds_21 0 rfl ?_
        refine r_aload_n hz dX7_odds_22 0 rfl ?_
        refine r_getR (j := 8) cl7 hz dX7_odds_23 (by decide) wm_2_112 rfl (fun q5 => ?_)
        refine r_getR (j := 13) cl4 hz dX7_odds_26 (by decide) wm_2_15 rfl (fun q6 => ?_)
        refine r_iload_n hz dX7_odds_29 2 rfl ?_
        refine r_iald hz dX7_odds_30 ?_
        refine r_i2l hz dX7_odds_31 ?_
        refine r_aload_n hz dX7_odds_32 0 rfl ?_
        refine r_getR (j := 8) cl7 hz dX7_odds_33 (by decide) wm_2_112 rfl (fun q7 => ?_)
        refine r_getI (j := 10) cl4 hz dX7_odds_36 (by decide) wm_2_9 rfl ?_
        refine r_i2l hz dX7_odds_39 ?_
        refine r_callVl (As := fun _ => [.long ((gI M3 q6 (p2).toNatClampNeg)).toInt64, .long ((gI M3 q7 10)).toInt64]) cl7 hz (fun _ _ h => t_X7_tell _ _ _ _ _ _ h) cal_X7_tell dX7_odds_40 wm_4_87 wm_4_89 wm_p_39 rfl rfl (Nat.le_of_ble_eq_true rfl) ⟨(Nat.le_of_ble_eq_true rfl), (Nat.le_of_ble_eq_true rfl)⟩ ⟨(Nat.le_of_ble_eq_true rfl), (Nat.le_of_ble_eq_true rfl)⟩ (fun v9 M8 => ?_)
        exact r_lret hz hq dX7_odds_43 (Nat.le_of_ble_eq_true rfl) (Nat.le_of_ble_eq_true rfl)
      · refine r_ldc2 (v := -1) hz dX7_odds_17 wm_4_74 ?_
        exact r_lret hz hq dX7_odds_20 (Nat.le_of_ble_eq_true rfl) (Nat.le_of_ble_eq_true rfl)
  exact key x M' h ⟨rfl, rfl⟩
theorem dX7_worth_0 : decode cX7_worth 0 = .ok (.iload_n 2, 1) := by decide +kernel
theorem dX7_worth_1 : decode cX7_worth 1 = .ok (.ifCond .lt 17, 3) := by decide +kernel
theorem dX7_worth_4 : decode cX7_worth 4 = .ok (.iload_n 2, 1) := by decide +kernel
theorem dX7_worth_5 : decode cX7_worth 5 = .ok (.bipush 99, 2) := by decide +kernel
theorem dX7_worth_7 : decode cX7_worth 7 = .ok (.if_icmp .gt 11, 3) := by decide +kernel
theorem dX7_worth_10 : decode cX7_worth 10 = .ok (.aload_n 0, 1) := by decide +kernel
theorem dX7_worth_11 : decode cX7_worth 11 = .ok (.iload_n 1, 1) := by decide +kernel
theorem dX7_worth_12 : decode cX7_worth 12 = .ok (.invokevirtual 278, 3) := by decide +kernel
theorem dX7_worth_15 : decode cX7_worth 15 = .ok (.ifCond .ne 7, 3) := by decide +kernel
theorem dX7_worth_18 : decode cX7_worth 18 = .ok (.ldc2_w 267, 3) := by decide +kernel
theorem dX7_worth_21 : decode cX7_worth 21 = .ok (.lreturn, 1) := by decide +kernel
theorem dX7_worth_22 : decode cX7_worth 22 = .ok (.aload_n 0, 1) := by decide +kernel
theorem dX7_worth_23 : decode cX7_worth 23 = .ok (.getfield 66, 3) := by decide +kernel
theorem dX7_worth_26 : decode cX7_worth 26 = .ok (.aload_n 0, 1) := by decide +kernel
theorem dX7_worth_27 : decode cX7_worth 27 = .ok (.getfield 52, 3) := by decide +kernel
theorem dX7_worth_30 : decode cX7_worth 30 = .ok (.iload_n 2, 1) := by decide +kernel
theorem dX7_worth_31 : decode cX7_worth 31 = .ok (.invokevirtual 288, 3) := by decide +kernel
theorem dX7_worth_34 : decode cX7_worth 34 = .ok (.ifCond .ne 7, 3) := by decide +kernel
theorem dX7_worth_37 : decode cX7_worth 37 = .ok (.ldc2_w 292, 3) := by decide +kernel
theorem dX7_worth_40 : decode cX7_worth 40 = .ok (.lreturn, 1) := by decide +kernel
theorem dX7_worth_41 : decode cX7_worth 41 = .ok (.aload_n 0, 1) := by decide +kernel
theorem dX7_worth_42 : decode cX7_worth 42 = .ok (.aload_n 0, 1) := by decide +kernel
theorem dX7_worth_43 : decode cX7_worth 43 = .ok (.getfield 66, 3) := by decide +kernel
theorem dX7_worth_46 : decode cX7_worth 46 = .ok (.getfield 294, 3) := by decide +kernel
theorem dX7_worth_49 : decode cX7_worth 49 = .ok (.aload_n 0, 1) := by decide +kernel
theorem dX7_worth_50 : decode cX7_worth 50 = .ok (.getfield 66, 3) := by decide +kernel
theorem dX7_worth_53 : decode cX7_worth 53 = .ok (.getfield 297, 3) := by decide +kernel
theorem dX7_worth_56 : decode cX7_worth 56 = .ok (.invokevirtual 284, 3) := by decide +kernel
theorem dX7_worth_59 : decode cX7_worth 59 = .ok (.lreturn, 1) := by decide +kernel
abbrev rX7_worth : Room := { frames := 5, cells := 0, slots := 0, locals := 113 }
theorem cal_X7_worth : CalOk yX7_worth cX7_worth 3 (some .long) 2 := ⟨wm_4_97, wm_1_1, by decide, by decide, by decide +kernel⟩
def f_X7_worth (p0 : Nat) (p1 : Int32) (p2 : Int32) (M : Mm) : Option (Int64 × Mm) :=
  (if p2 < 0 then
    some ((-1 : Int64), M)
  else
    (if (99 : Int32) < p2 then
      some ((-1 : Int64), M)
    else
      ck (gK M p0 = 7) (bd (f_X7_foreseeStanding p0 p1 M) fun v2 M1 =>
      (if ¬ v2 = 0 then
        ck (gK M1 p0 = 7) (bR (gR M1 p0 10) fun q3 => ck (gK M1 p0 = 7) (bR (gR M1 p0 8) fun q4 => ck (gK M1 q3 = 0) (bd (f_X0_weigh q3 q4 p2 M1) fun v6 M5 =>
        (if ¬ v6 = 0 then
          ck (gK M5 p0 = 7) (bR (gR M5 p0 10) fun q7 => ck (gK M5 q7 = 0) (ck (gK M5 p0 = 7) (bR (gR M5 p0 10) fun q8 => ck (gK M5 q8 = 0) (ck (gK M5 p0 = 7) (bd (f_X7_tell p0 (gL M5 q7 0) (gL M5 q8 1) M5) fun v10 M9 =>
          some (v10, M9))))))
        else
          some ((-2 : Int64), M5)))))
      else
        some ((-1 : Int64), M1)))))
set_option maxRecDepth 20000 in
set_option maxHeartbeats 4000000 in
theorem t_X7_worth (p0 : Nat) (p1 : Int32) (p2 : Int32) (M : Mm) (x : Int64) (M' : Mm) (h : f_X7_worth p0 p1 p2 M = some (x, M')) : Ctr yX7_worth cX7_worth 3 (some .long) rX7_worth (fun _ => [.ref p0, .int p1, .int p2]) M (zL x) M' := by
  refine ctr_of (plainFor_of_name (by decide)) (fun _ => Nat.le_of_ble_eq_true rfl) (fun z hz hin hq => ?_)
  have key : Sim z 0 [(0, .ref p0), (1, .int p1), (2, .int p2)] [] M 0 0 (f_X7_worth p0 p1 p2 M) (fun a b => a = x ∧ b = M') := by
    have hq : Ret z zL (fun a b => a = x ∧ b = M') := fun a b e => by rw [e.1, e.2]; exact hq
    unfold f_X7_worth
    refine r_iload_n hz dX7_worth_0 2 rfl ?_
    refine r_if_lt (tgt := 18) hz dX7_worth_1 rfl ?_ ?_
    · refine r_ldc2 (v := -1) hz dX7_worth_18 wm_4_74 ?_
      exact r_lret hz hq dX7_worth_21 (Nat.le_of_ble_eq_true rfl) (Nat.le_of_ble_eq_true rfl)
    · refine r_iload_n hz dX7_worth_4 2 rfl ?_
      refine r_bipush (v := 99) hz dX7_worth_5 rfl ?_
      refine r_icmp_gt (tgt := 18) hz dX7_worth_7 rfl ?_ ?_
      · refine r_ldc2 (v := -1) hz dX7_worth_18 wm_4_74 ?_
        exact r_lret hz hq dX7_worth_21 (Nat.le_of_ble_eq_true rfl) (Nat.le_of_ble_eq_true rfl)
      · refine r_aload_n hz dX7_worth_10 0 rfl ?_
        refine r_iload_n hz dX7_worth_11 1 rfl ?_
        refine r_callVi (As := fun _ => [.int p1]) cl7 hz (fun _ _ h => t_X7_foreseeStanding _ _ _ _ _ h) cal_X7_foreseeStanding dX7_worth_12 wm_4_83 wm_4_85 wm_p_38 rfl rfl (Nat.le_of_ble_eq_true rfl) ⟨(Nat.le_of_ble_eq_true rfl), (Nat.le_of_ble_eq_true rfl)⟩ ⟨(Nat.le_of_ble_eq_true rfl), (Nat.le_of_ble_eq_true rfl)⟩ (fun v2 M1 => ?_)
        refine r_if_ne (tgt := 22) hz dX7_worth_15 rfl ?_ ?_
        · refine r_aload_n hz dX7_worth_22 0 rfl ?_
          refine r_getR (j := 10) cl7 hz dX7_worth_23 (by decide) wm_2_114 rfl (fun q3 => ?_)
          refine r_aload_n hz dX7_worth_26 0 rfl ?_
          refine r_getR (j := 8) cl7 hz dX7_worth_27 (by decide) wm_2_112 rfl (fun q4 => ?_)
          refine r_iload_n hz dX7_worth_30 2 rfl ?_
          refine r_callVi (As := fun _ => [.ref q4, .int p2]) cl0 hz (fun _ _ h => t_X0_weigh _ _ _ _ _ _ h) cal_X0_weigh dX7_worth_31 wm_4_98 wm_4_99 wm_4_100 rfl rfl (Nat.le_of_ble_eq_true rfl) ⟨(Nat.le_of_ble_eq_true rfl), (Nat.le_of_ble_eq_true rfl)⟩ ⟨(Nat.le_of_ble_eq_true rfl), (Nat.le_of_ble_eq_true rfl)⟩ (fun v6 M5 => ?_)
          refine r_if_ne (tgt := 41) hz dX7_worth_34 rfl ?_ ?_
          · refine r_aload_n hz dX7_worth_41 0 rfl ?_
            refine r_aload_n hz dX7_worth_42 0 rfl ?_
            refine r_getR (j := 10) cl7 hz dX7_worth_43 (by decide) wm_2_114 rfl (fun q7 => ?_)
            refine r_getL (j := 0) cl0 hz dX7_worth_46 (by decide) wm_2_81 rfl ?_
            refine r_aload_n hz dX7_worth_49 0 rfl ?_
            refine r_getR (j := 10) cl7 hz dX7_worth_50 (by decide) wm_2_114 rfl (fun q8 => ?_)
            refine r_getL (j := 1) cl0 hz dX7_worth_53 (by decide) wm_2_83 rfl ?_
            refine r_callVl (As := fun _ => [.long (gL M5 q7 0), .long (gL M5 q8 1)]) cl7 hz (fun _ _ h => t_X7_tell _ _ _ _ _ _ h) cal_X7_tell dX7_worth_56 wm_4_87 wm_4_89 wm_p_39 rfl rfl (Nat.le_of_ble_eq_true rfl) ⟨(Nat.le_of_ble_eq_true rfl), (Nat.le_of_ble_eq_true rfl)⟩ ⟨(Nat.le_of_ble_eq_true rfl), (Nat.le_of_ble_eq_true rfl)⟩ (fun v10 M9 => ?_)
            exact r_lret hz hq dX7_worth_59 (Nat.le_of_ble_eq_true rfl) (Nat.le_of_ble_eq_true rfl)
          · refine r_ldc2 (v := -2) hz dX7_worth_37 wm_4_113 ?_
            exact r_lret hz hq dX7_worth_40 (Nat.le_of_ble_eq_true rfl) (Nat.le_of_ble_eq_true rfl)
        · refine r_ldc2 (v := -1) hz dX7_worth_18 wm_4_74 ?_
          exact r_lret hz hq dX7_worth_21 (Nat.le_of_ble_eq_true rfl) (Nat.le_of_ble_eq_true rfl)
  exact key x M' h ⟨rfl, rfl⟩
theorem dX7_life_0 : decode cX7_life 0 = .ok (.aload_n 0, 1) := by decide +kernel
theorem dX7_life_1 : decode cX7_life 1 = .ok (.iload_n 1, 1) := by decide +kernel
theorem dX7_life_2 : decode cX7_life 2 = .ok (.invokevirtual 278, 3) := by decide +kernel
theorem dX7_life_5 : decode cX7_life 5 = .ok (.ifCond .ne 7, 3) := by decide +kernel
theorem dX7_life_8 : decode cX7_life 8 = .ok (.ldc2_w 267, 3) := by decide +kernel
theorem dX7_life_11 : decode cX7_life 11 = .ok (.lreturn, 1) := by decide +kernel
theorem dX7_life_12 : decode cX7_life 12 = .ok (.lconst 0, 1) := by decide +kernel
theorem dX7_life_13 : decode cX7_life 13 = .ok (.lstore_n 2, 1) := by decide +kernel
theorem dX7_life_14 : decode cX7_life 14 = .ok (.aload_n 0, 1) := by decide +kernel
theorem dX7_life_15 : decode cX7_life 15 = .ok (.getfield 52, 3) := by decide +kernel
theorem dX7_life_18 : decode cX7_life 18 = .ok (.getfield 269, 3) := by decide +kernel
theorem dX7_life_21 : decode cX7_life 21 = .ok (.istore 4, 2) := by decide +kernel
theorem dX7_life_23 : decode cX7_life 23 = .ok (.iload 4, 2) := by decide +kernel
theorem dX7_life_25 : decode cX7_life 25 = .ok (.aload_n 0, 1) := by decide +kernel
theorem dX7_life_26 : decode cX7_life 26 = .ok (.getfield 52, 3) := by decide +kernel
theorem dX7_life_29 : decode cX7_life 29 = .ok (.getfield 272, 3) := by decide +kernel
theorem dX7_life_32 : decode cX7_life 32 = .ok (.if_icmp .gt 35, 3) := by decide +kernel
theorem dX7_life_35 : decode cX7_life 35 = .ok (.lload_n 2, 1) := by decide +kernel
theorem dX7_life_36 : decode cX7_life 36 = .ok (.iload 4, 2) := by decide +kernel
theorem dX7_life_38 : decode cX7_life 38 = .ok (.aload_n 0, 1) := by decide +kernel
theorem dX7_life_39 : decode cX7_life 39 = .ok (.getfield 19, 3) := by decide +kernel
theorem dX7_life_42 : decode cX7_life 42 = .ok (.getfield 102, 3) := by decide +kernel
theorem dX7_life_45 : decode cX7_life 45 = .ok (.isub, 1) := by decide +kernel
theorem dX7_life_46 : decode cX7_life 46 = .ok (.i2l, 1) := by decide +kernel
theorem dX7_life_47 : decode cX7_life 47 = .ok (.aload_n 0, 1) := by decide +kernel
theorem dX7_life_48 : decode cX7_life 48 = .ok (.getfield 52, 3) := by decide +kernel
theorem dX7_life_51 : decode cX7_life 51 = .ok (.getfield 225, 3) := by decide +kernel
theorem dX7_life_54 : decode cX7_life 54 = .ok (.iload 4, 2) := by decide +kernel
theorem dX7_life_56 : decode cX7_life 56 = .ok (.iaload, 1) := by decide +kernel
theorem dX7_life_57 : decode cX7_life 57 = .ok (.i2l, 1) := by decide +kernel
theorem dX7_life_58 : decode cX7_life 58 = .ok (.lmul, 1) := by decide +kernel
theorem dX7_life_59 : decode cX7_life 59 = .ok (.ladd, 1) := by decide +kernel
theorem dX7_life_60 : decode cX7_life 60 = .ok (.lstore_n 2, 1) := by decide +kernel
theorem dX7_life_61 : decode cX7_life 61 = .ok (.iinc 4 1, 3) := by decide +kernel
theorem dX7_life_64 : decode cX7_life 64 = .ok (.goto (-41), 3) := by decide +kernel
theorem dX7_life_67 : decode cX7_life 67 = .ok (.aload_n 0, 1) := by decide +kernel
theorem dX7_life_68 : decode cX7_life 68 = .ok (.lload_n 2, 1) := by decide +kernel
theorem dX7_life_69 : decode cX7_life 69 = .ok (.aload_n 0, 1) := by decide +kernel
theorem dX7_life_70 : decode cX7_life 70 = .ok (.getfield 52, 3) := by decide +kernel
theorem dX7_life_73 : decode cX7_life 73 = .ok (.getfield 281, 3) := by decide +kernel
theorem dX7_life_76 : decode cX7_life 76 = .ok (.i2l, 1) := by decide +kernel
theorem dX7_life_77 : decode cX7_life 77 = .ok (.invokevirtual 284, 3) := by decide +kernel
theorem dX7_life_80 : decode cX7_life 80 = .ok (.lreturn, 1) := by decide +kernel
abbrev rX7_life : Room := { frames := 5, cells := 0, slots := 0, locals := 113 }
theorem cal_X7_life : CalOk yX7_life cX7_life 5 (some .long) 1 := ⟨wm_4_117, wm_1_1, by decide, by decide, by decide +kernel⟩
def f_X7_life_23 : Nat → Nat → Int64 → Int32 → Mm → Option (Int64 × Mm)
  | 0, _, _, _, _ => none
  | n + 1, x0, x2, x4, M =>
    ck (gK M x0 = 7) (bR (gR M x0 8) fun q1 => ck (gK M q1 = 4) ((if (gI M q1 9) < x4 then
      ck (gK M x0 = 7) (bR (gR M x0 8) fun q2 => ck (gK M q2 = 4) (ck (gK M x0 = 7) (bd (f_X7_tell x0 x2 ((gI M q2 10)).toInt64 M) fun v4 M3 =>
      some (v4, M3))))
    else
      ck (gK M x0 = 7) (bR (gR M x0 1) fun q5 => ck (gK M q5 = 5) (ck (gK M x0 = 7) (bR (gR M x0 8) fun q6 => ck (gK M q6 = 4) (bR (gR M q6 13) fun q7 => ck (gK M q7 = 10 ∧ inb x4 (gN M q7)) (nm (x2 + (((x4 - (gI M q5 0))).toInt64 * ((gI M q7 (x4).toNatClampNeg)).toInt64)) fun v8 =>
      f_X7_life_23 n x0 v8 (x4 + (1 : Int32)) M))))))))
set_option maxRecDepth 20000 in
set_option maxHeartbeats 4000000 in
theorem s_X7_life_23 {z : Zt} {K : Int64 → Mm → Prop} (hz : Good z RX7 cX7_life 5 rX7_life (some .long)) (hq : Ret z zL K) : ∀ (n : Nat) (x0 : Nat) (x2 : Int64) (x4 : Int32) (M : Mm), Sim z 23 [(0, .ref x0), (2, .long x2), (4, .int x4)] [] M 0 0 (f_X7_life_23 n x0 x2 x4 M) K := by
  intro n
  induction n with
  | zero => exact fun _ _ _ _ => r_none
  | succ n ih =>
    intro x0 x2 x4 M
    unfold f_X7_life_23
    refine r_iload hz dX7_life_23 2 rfl ?_
    refine r_aload_n hz dX7_life_25 0 rfl ?_
    refine r_getR (j := 8) cl7 hz dX7_life_26 (by decide) wm_2_112 rfl (fun q1 => ?_)
    refine r_getI (j := 9) cl4 hz dX7_life_29 (by decide) wm_2_6 rfl ?_
    refine r_icmp_gt (tgt := 67) hz dX7_life_32 rfl ?_ ?_
    · refine r_aload_n hz dX7_life_67 0 rfl ?_
      refine r_lload_n hz dX7_life_68 1 rfl ?_
      refine r_aload_n hz dX7_life_69 0 rfl ?_
      refine r_getR (j := 8) cl7 hz dX7_life_70 (by decide) wm_2_112 rfl (fun q2 => ?_)
      refine r_getI (j := 10) cl4 hz dX7_life_73 (by decide) wm_2_9 rfl ?_
      refine r_i2l hz dX7_life_76 ?_
      refine r_callVl (As := fun _ => [.long x2, .long ((gI M q2 10)).toInt64]) cl7 hz (fun _ _ h => t_X7_tell _ _ _ _ _ _ h) cal_X7_tell dX7_life_77 wm_4_87 wm_4_89 wm_p_39 rfl rfl (Nat.le_of_ble_eq_true rfl) ⟨(Nat.le_of_ble_eq_true rfl), (Nat.le_of_ble_eq_true rfl)⟩ ⟨(Nat.le_of_ble_eq_true rfl), (Nat.le_of_ble_eq_true rfl)⟩ (fun v4 M3 => ?_)
      exact r_lret hz hq dX7_life_80 (Nat.le_of_ble_eq_true rfl) (Nat.le_of_ble_eq_true rfl)
    · refine r_lload_n hz dX7_life_35 1 rfl ?_
      refine r_iload hz dX7_life_36 2 rfl ?_
      refine r_aload_n hz dX7_life_38 0 rfl ?_
      refine r_getR (j := 1) cl7 hz dX7_life_39 (by decide) wm_2_105 rfl (fun q5 => ?_)
      refine r_getI (j := 0) cl5 hz dX7_life_42 (by decide) wm_1_142 rfl ?_
      refine r_isub hz dX7_life_45 ?_
      refine r_i2l hz dX7_life_46 ?_
      refine r_aload_n hz dX7_life_47 0 rfl ?_
      refine r_getR (j := 8) cl7 hz dX7_life_48 (by decide) wm_2_112 rfl (fun q6 => ?_)
      refine r_getR (j := 13) cl4 hz dX7_life_51 (by decide) wm_2_15 rfl (fun q7 => ?_)
      refine r_iload hz dX7_life_54 2 rfl ?_
      refine r_iald hz dX7_life_56 ?_
      refine r_i2l hz dX7_life_57 ?_
      refine r_lmul hz dX7_life_58 ?_
      refine r_ladd hz dX7_life_59 ?_
      refine r_nml (fun v8 => ?_)
      refine r_lstore_n (lv' := [(2, .long v8), (0, .ref x0), (4, .int x4)]) hz dX7_life_60 (by decide) rfl ?_
      refine r_iinc (v := (x4 + (1 : Int32))) (lv' := [(4, .int (x4 + (1 : Int32))), (2, .long v8), (0, .ref x0)]) hz dX7_life_61 2 rfl rfl (by decide) rfl ?_
      refine r_goto (tgt := 23) hz dX7_life_64 rfl ?_
      refine r_sub [2, 1, 0] rfl ?_
      exact ih x0 v8 (x4 + (1 : Int32)) M
def f_X7_life (p0 : Nat) (p1 : Int32) (M : Mm) : Option (Int64 × Mm) :=
  ck (gK M p0 = 7) (bd (f_X7_foreseeStanding p0 p1 M) fun v2 M1 =>
  (if ¬ v2 = 0 then
    ck (gK M1 p0 = 7) (bR (gR M1 p0 8) fun q3 => ck (gK M1 q3 = 4) (nm (gI M1 q3 8) fun v4 =>
    f_X7_life_23 FU p0 (0 : Int64) v4 M1))
  else
    some ((-1 : Int64), M1)))
set_option maxRecDepth 20000 in
set_option maxHeartbeats 4000000 in
theorem t_X7_life (p0 : Nat) (p1 : Int32) (M : Mm) (x : Int64) (M' : Mm) (h : f_X7_life p0 p1 M = some (x, M')) : Ctr yX7_life cX7_life 5 (some .long) rX7_life (fun _ => [.ref p0, .int p1]) M (zL x) M' := by
  refine ctr_of (plainFor_of_name (by decide)) (fun _ => Nat.le_of_ble_eq_true rfl) (fun z hz hin hq => ?_)
  have key : Sim z 0 [(0, .ref p0), (1, .int p1)] [] M 0 0 (f_X7_life p0 p1 M) (fun a b => a = x ∧ b = M') := by
    have hq : Ret z zL (fun a b => a = x ∧ b = M') := fun a b e => by rw [e.1, e.2]; exact hq
    unfold f_X7_life
    refine r_aload_n hz dX7_life_0 0 rfl ?_
    refine r_iload_n hz dX7_life_1 1 rfl ?_
    refine r_callVi (As := fun _ => [.int p1]) cl7 hz (fun _ _ h => t_X7_foreseeStanding _ _ _ _ _ h) cal_X7_foreseeStanding dX7_life_2 wm_4_83 wm_4_85 wm_p_38 rfl rfl (Nat.le_of_ble_eq_true rfl) ⟨(Nat.le_of_ble_eq_true rfl), (Nat.le_of_ble_eq_true rfl)⟩ ⟨(Nat.le_of_ble_eq_true rfl), (Nat.le_of_ble_eq_true rfl)⟩ (fun v2 M1 => ?_)
    refine r_if_ne (tgt := 12) hz dX7_life_5 rfl ?_ ?_
    · refine r_lconst (v := 0) hz dX7_life_12 rfl ?_
      refine r_lstore_n (lv' := [(2, .long (0 : Int64)), (0, .ref p0), (1, .int p1)]) hz dX7_life_13 (by decide) rfl ?_
      refine r_aload_n hz dX7_life_14 1 rfl ?_
      refine r_getR (j := 8) cl7 hz dX7_life_15 (by decide) wm_2_112 rfl (fun q3 => ?_)
      refine r_getI (j := 8) cl4 hz dX7_life_18 (by decide) wm_2_3 rfl ?_
      refine r_nmi (fun v4 => ?_)
      refine r_istore (lv' := [(4, .int v4), (2, .long (0 : Int64)), (0, .ref p0), (1, .int p1)]) hz dX7_life_21 (by decide) rfl ?_
      refine r_sub [2, 1, 0] rfl ?_
      exact s_X7_life_23 hz hq FU p0 (0 : Int64) v4 M1
    · refine r_ldc2 (v := -1) hz dX7_life_8 wm_4_74 ?_
      exact r_lret hz hq dX7_life_11 (Nat.le_of_ble_eq_true rfl) (Nat.le_of_ble_eq_true rfl)
  exact key x M' h ⟨rfl, rfl⟩
theorem dX7_half_0 : decode cX7_half 0 = .ok (.aload_n 0, 1) := by decide +kernel
theorem dX7_half_1 : decode cX7_half 1 = .ok (.iload_n 1, 1) := by decide +kernel
theorem dX7_half_2 : decode cX7_half 2 = .ok (.invokevirtual 278, 3) := by decide +kernel
theorem dX7_half_5 : decode cX7_half 5 = .ok (.ifCond .ne 5, 3) := by decide +kernel
theorem dX7_half_8 : decode cX7_half 8 = .ok (.iconst (-1), 1) := by decide +kernel
theorem dX7_half_9 : decode cX7_half 9 = .ok (.ireturn, 1) := by decide +kernel
theorem dX7_half_10 : decode cX7_half 10 = .ok (.aload_n 0, 1) := by decide +kernel
theorem dX7_half_11 : decode cX7_half 11 = .ok (.getfield 52, 3) := by decide +kernel
theorem dX7_half_14 : decode cX7_half 14 = .ok (.getfield 269, 3) := by decide +kernel
theorem dX7_half_17 : decode cX7_half 17 = .ok (.istore_n 2, 1) := by decide +kernel
theorem dX7_half_18 : decode cX7_half 18 = .ok (.iload_n 2, 1) := by decide +kernel
theorem dX7_half_19 : decode cX7_half 19 = .ok (.aload_n 0, 1) := by decide +kernel
theorem dX7_half_20 : decode cX7_half 20 = .ok (.getfield 52, 3) := by decide +kernel
theorem dX7_half_23 : decode cX7_half 23 = .ok (.getfield 272, 3) := by decide +kernel
theorem dX7_half_26 : decode cX7_half 26 = .ok (.if_icmp .gt 39, 3) := by decide +kernel
theorem dX7_half_29 : decode cX7_half 29 = .ok (.iconst 2, 1) := by decide +kernel
theorem dX7_half_30 : decode cX7_half 30 = .ok (.aload_n 0, 1) := by decide +kernel
theorem dX7_half_31 : decode cX7_half 31 = .ok (.getfield 52, 3) := by decide +kernel
theorem dX7_half_34 : decode cX7_half 34 = .ok (.getfield 281, 3) := by decide +kernel
theorem dX7_half_37 : decode cX7_half 37 = .ok (.aload_n 0, 1) := by decide +kernel
theorem dX7_half_38 : decode cX7_half 38 = .ok (.getfield 52, 3) := by decide +kernel
theorem dX7_half_41 : decode cX7_half 41 = .ok (.iload_n 2, 1) := by decide +kernel
theorem dX7_half_42 : decode cX7_half 42 = .ok (.invokevirtual 298, 3) := by decide +kernel
theorem dX7_half_45 : decode cX7_half 45 = .ok (.isub, 1) := by decide +kernel
theorem dX7_half_46 : decode cX7_half 46 = .ok (.imul, 1) := by decide +kernel
theorem dX7_half_47 : decode cX7_half 47 = .ok (.aload_n 0, 1) := by decide +kernel
theorem dX7_half_48 : decode cX7_half 48 = .ok (.getfield 52, 3) := by decide +kernel
theorem dX7_half_51 : decode cX7_half 51 = .ok (.getfield 281, 3) := by decide +kernel
theorem dX7_half_54 : decode cX7_half 54 = .ok (.if_icmp .lt 5, 3) := by decide +kernel
theorem dX7_half_57 : decode cX7_half 57 = .ok (.iload_n 2, 1) := by decide +kernel
theorem dX7_half_58 : decode cX7_half 58 = .ok (.ireturn, 1) := by decide +kernel
theorem dX7_half_59 : decode cX7_half 59 = .ok (.iinc 2 1, 3) := by decide +kernel
theorem dX7_half_62 : decode cX7_half 62 = .ok (.goto (-44), 3) := by decide +kernel
theorem dX7_half_65 : decode cX7_half 65 = .ok (.iconst (-1), 1) := by decide +kernel
theorem dX7_half_66 : decode cX7_half 66 = .ok (.ireturn, 1) := by decide +kernel
abbrev rX7_half : Room := { frames := 5, cells := 0, slots := 0, locals := 113 }
theorem cal_X7_half : CalOk yX7_half cX7_half 3 (some .int) 1 := ⟨wm_4_121, wm_1_1, by decide, by decide, by decide +kernel⟩
def f_X7_half_18 : Nat → Nat → Int32 → Mm → Option (Int32 × Mm)
  | 0, _, _, _ => none
  | n + 1, x0, x2, M =>
    ck (gK M x0 = 7) (bR (gR M x0 8) fun q1 => ck (gK M q1 = 4) ((if (gI M q1 9) < x2 then
      some ((-1 : Int32), M)
    else
      ck (gK M x0 = 7) (bR (gR M x0 8) fun q2 => ck (gK M q2 = 4) (ck (gK M x0 = 7) (bR (gR M x0 8) fun q3 => ck (gK M q3 = 4) (bd (f_X4_leftBehind q3 x2 M) fun v5 M4 =>
      ck (gK M4 x0 = 7) (bR (gR M4 x0 8) fun q6 => ck (gK M4 q6 = 4) ((if ((2 : Int32) * ((gI M q2 10) - v5)) < (gI M4 q6 10) then
        f_X7_half_18 n x0 (x2 + (1 : Int32)) M4
      else
        some (x2, M4)))))))))))
set_option maxRecDepth 20000 in
set_option maxHeartbeats 4000000 in
theorem s_X7_half_18 {z : Zt} {K : Int32 → Mm → Prop} (hz : Good z RX7 cX7_half 3 rX7_half (some .int)) (hq : Ret z zI K) : ∀ (n : Nat) (x0 : Nat) (x2 : Int32) (M : Mm), Sim z 18 [(0, .ref x0), (2, .int x2)] [] M 0 0 (f_X7_half_18 n x0 x2 M) K := by
  intro n
  induction n with
  | zero => exact fun _ _ _ => r_none
  | succ n ih =>
    intro x0 x2 M
    unfold f_X7_half_18
    refine r_iload_n hz dX7_half_18 1 rfl ?_
    refine r_aload_n hz dX7_half_19 0 rfl ?_
    refine r_getR (j := 8) cl7 hz dX7_half_20 (by decide) wm_2_112 rfl (fun q1 => ?_)
    refine r_getI (j := 9) cl4 hz dX7_half_23 (by decide) wm_2_6 rfl ?_
    refine r_icmp_gt (tgt := 65) hz dX7_half_26 rfl ?_ ?_
    · refine r_iconst (v := -1) hz dX7_half_65 rfl ?_
      exact r_iret hz hq dX7_half_66 (Nat.le_of_ble_eq_true rfl) (Nat.le_of_ble_eq_true rfl)
    · refine r_iconst (v := 2) hz dX7_half_29 rfl ?_
      refine r_aload_n hz dX7_half_30 0 rfl ?_
      refine r_getR (j := 8) cl7 hz dX7_half_31 (by decide) wm_2_112 rfl (fun q2 => ?_)
      refine r_getI (j := 10) cl4 hz dX7_half_34 (by decide) wm_2_9 rfl ?_
      refine r_aload_n hz dX7_half_37 0 rfl ?_
      refine r_getR (j := 8) cl7 hz dX7_half_38 (by decide) wm_2_112 rfl (fun q3 => ?_)
      refine r_iload_n hz dX7_half_41 1 rfl ?_
      refine r_callVi (As := fun _ => [.int x2]) cl4 hz (fun _ _ h => t_X4_leftBehind _ _ _ _ _ h) cal_X4_leftBehind dX7_half_42 wm_4_122 wm_4_123 wm_4_124 rfl rfl (Nat.le_of_ble_eq_true rfl) ⟨(Nat.le_of_ble_eq_true rfl), (Nat.le_of_ble_eq_true rfl)⟩ ⟨(Nat.le_of_ble_eq_true rfl), (Nat.le_of_ble_eq_true rfl)⟩ (fun v5 M4 => ?_)
      refine r_isub hz dX7_half_45 ?_
      refine r_imul hz dX7_half_46 ?_
      refine r_aload_n hz dX7_half_47 0 rfl ?_
      refine r_getR (j := 8) cl7 hz dX7_half_48 (by decide) wm_2_112 rfl (fun q6 => ?_)
      refine r_getI (j := 10) cl4 hz dX7_half_51 (by decide) wm_2_9 rfl ?_
      refine r_icmp_lt (tgt := 59) hz dX7_half_54 rfl ?_ ?_
      · refine r_iinc (v := (x2 + (1 : Int32))) (lv' := [(2, .int (x2 + (1 : Int32))), (0, .ref x0)]) hz dX7_half_59 1 rfl rfl (by decide) rfl ?_
        refine r_goto (tgt := 18) hz dX7_half_62 rfl ?_
        refine r_sub [1, 0] rfl ?_
        exact ih x0 (x2 + (1 : Int32)) M4
      · refine r_iload_n hz dX7_half_57 1 rfl ?_
        exact r_iret hz hq dX7_half_58 (Nat.le_of_ble_eq_true rfl) (Nat.le_of_ble_eq_true rfl)
def f_X7_half (p0 : Nat) (p1 : Int32) (M : Mm) : Option (Int32 × Mm) :=
  ck (gK M p0 = 7) (bd (f_X7_foreseeStanding p0 p1 M) fun v2 M1 =>
  (if ¬ v2 = 0 then
    ck (gK M1 p0 = 7) (bR (gR M1 p0 8) fun q3 => ck (gK M1 q3 = 4) (nm (gI M1 q3 8) fun v4 =>
    f_X7_half_18 FU p0 v4 M1))
  else
    some ((-1 : Int32), M1)))
set_option maxRecDepth 20000 in
set_option maxHeartbeats 4000000 in
theorem t_X7_half (p0 : Nat) (p1 : Int32) (M : Mm) (x : Int32) (M' : Mm) (h : f_X7_half p0 p1 M = some (x, M')) : Ctr yX7_half cX7_half 3 (some .int) rX7_half (fun _ => [.ref p0, .int p1]) M (zI x) M' := by
  refine ctr_of (plainFor_of_name (by decide)) (fun _ => Nat.le_of_ble_eq_true rfl) (fun z hz hin hq => ?_)
  have key : Sim z 0 [(0, .ref p0), (1, .int p1)] [] M 0 0 (f_X7_half p0 p1 M) (fun a b => a = x ∧ b = M') := by
    have hq : Ret z zI (fun a b => a = x ∧ b = M') := fun a b e => by rw [e.1, e.2]; exact hq
    unfold f_X7_half
    refine r_aload_n hz dX7_half_0 0 rfl ?_
    refine r_iload_n hz dX7_half_1 1 rfl ?_
    refine r_callVi (As := fun _ => [.int p1]) cl7 hz (fun _ _ h => t_X7_foreseeStanding _ _ _ _ _ h) cal_X7_foreseeStanding dX7_half_2 wm_4_83 wm_4_85 wm_p_38 rfl rfl (Nat.le_of_ble_eq_true rfl) ⟨(Nat.le_of_ble_eq_true rfl), (Nat.le_of_ble_eq_true rfl)⟩ ⟨(Nat.le_of_ble_eq_true rfl), (Nat.le_of_ble_eq_true rfl)⟩ (fun v2 M1 => ?_)
    refine r_if_ne (tgt := 10) hz dX7_half_5 rfl ?_ ?_
    · refine r_aload_n hz dX7_half_10 0 rfl ?_
      refine r_getR (j := 8) cl7 hz dX7_half_11 (by decide) wm_2_112 rfl (fun q3 => ?_)
      refine r_getI (j := 8) cl4 hz dX7_half_14 (by decide) wm_2_3 rfl ?_
      refine r_nmi (fun v4 => ?_)
      refine r_istore_n (lv' := [(2, .int v4), (0, .ref p0), (1, .int p1)]) hz dX7_half_17 (by decide) rfl ?_
      refine r_sub [1, 0] rfl ?_
      exact s_X7_half_18 hz hq FU p0 v4 M1
    · refine r_iconst (v := -1) hz dX7_half_8 rfl ?_
      exact r_iret hz hq dX7_half_9 (Nat.le_of_ble_eq_true rfl) (Nat.le_of_ble_eq_true rfl)
  exact key x M' h ⟨rfl, rfl⟩
theorem dX7_yields_0 : decode cX7_yields 0 = .ok (.iload_n 2, 1) := by decide +kernel
theorem dX7_yields_1 : decode cX7_yields 1 = .ok (.iconst 1, 1) := by decide +kernel
theorem dX7_yields_2 : decode cX7_yields 2 = .ok (.if_icmp .lt 17, 3) := by decide +kernel
theorem dX7_yields_5 : decode cX7_yields 5 = .ok (.iload_n 2, 1) := by decide +kernel
theorem dX7_yields_6 : decode cX7_yields 6 = .ok (.ldc 249, 2) := by decide +kernel
theorem dX7_yields_8 : decode cX7_yields 8 = .ok (.if_icmp .gt 11, 3) := by decide +kernel
theorem dX7_yields_11 : decode cX7_yields 11 = .ok (.aload_n 0, 1) := by decide +kernel
theorem dX7_yields_12 : decode cX7_yields 12 = .ok (.iload_n 1, 1) := by decide +kernel
theorem dX7_yields_13 : decode cX7_yields 13 = .ok (.invokevirtual 278, 3) := by decide +kernel
theorem dX7_yields_16 : decode cX7_yields 16 = .ok (.ifCond .ne 5, 3) := by decide +kernel
theorem dX7_yields_19 : decode cX7_yields 19 = .ok (.iconst (-1), 1) := by decide +kernel
theorem dX7_yields_20 : decode cX7_yields 20 = .ok (.ireturn, 1) := by decide +kernel
theorem dX7_yields_21 : decode cX7_yields 21 = .ok (.bipush 99, 2) := by decide +kernel
theorem dX7_yields_23 : decode cX7_yields 23 = .ok (.istore_n 3, 1) := by decide +kernel
theorem dX7_yields_24 : decode cX7_yields 24 = .ok (.iload_n 3, 1) := by decide +kernel
theorem dX7_yields_25 : decode cX7_yields 25 = .ok (.ifCond .lt 37, 3) := by decide +kernel
theorem dX7_yields_28 : decode cX7_yields 28 = .ok (.aload_n 0, 1) := by decide +kernel
theorem dX7_yields_29 : decode cX7_yields 29 = .ok (.getfield 66, 3) := by decide +kernel
theorem dX7_yields_32 : decode cX7_yields 32 = .ok (.aload_n 0, 1) := by decide +kernel
theorem dX7_yields_33 : decode cX7_yields 33 = .ok (.getfield 52, 3) := by decide +kernel
theorem dX7_yields_36 : decode cX7_yields 36 = .ok (.iload_n 3, 1) := by decide +kernel
theorem dX7_yields_37 : decode cX7_yields 37 = .ok (.invokevirtual 288, 3) := by decide +kernel
theorem dX7_yields_40 : decode cX7_yields 40 = .ok (.ifCond .eq 16, 3) := by decide +kernel
theorem dX7_yields_43 : decode cX7_yields 43 = .ok (.aload_n 0, 1) := by decide +kernel
theorem dX7_yields_44 : decode cX7_yields 44 = .ok (.getfield 66, 3) := by decide +kernel
theorem dX7_yields_47 : decode cX7_yields 47 = .ok (.iload_n 2, 1) := by decide +kernel
theorem dX7_yields_48 : decode cX7_yields 48 = .ok (.invokevirtual 301, 3) := by decide +kernel
theorem dX7_yields_51 : decode cX7_yields 51 = .ok (.ifCond .eq 5, 3) := by decide +kernel
theorem dX7_yields_54 : decode cX7_yields 54 = .ok (.iload_n 3, 1) := by decide +kernel
theorem dX7_yields_55 : decode cX7_yields 55 = .ok (.ireturn, 1) := by decide +kernel
theorem dX7_yields_56 : decode cX7_yields 56 = .ok (.iinc 3 (-1), 3) := by decide +kernel
theorem dX7_yields_59 : decode cX7_yields 59 = .ok (.goto (-35), 3) := by decide +kernel
theorem dX7_yields_62 : decode cX7_yields 62 = .ok (.bipush (-2), 2) := by decide +kernel
theorem dX7_yields_64 : decode cX7_yields 64 = .ok (.ireturn, 1) := by decide +kernel
abbrev rX7_yields : Room := { frames := 5, cells := 0, slots := 0, locals := 113 }
theorem cal_X7_yields : CalOk yX7_yields cX7_yields 4 (some .int) 2 := ⟨wm_4_129, wm_1_1, by decide, by decide, by decide +kernel⟩
def f_X7_yields_24 : Nat → Nat → Int32 → Int32 → Mm → Option (Int32 × Mm)
  | 0, _, _, _, _ => none
  | n + 1, x0, x2, x3, M =>
    (if x3 < 0 then
      some ((-2 : Int32), M)
    else
      ck (gK M x0 = 7) (bR (gR M x0 10) fun q1 => ck (gK M x0 = 7) (bR (gR M x0 8) fun q2 => ck (gK M q1 = 0) (bd (f_X0_weigh q1 q2 x3 M) fun v4 M3 =>
      (if v4 = 0 then
        f_X7_yields_24 n x0 x2 (x3 + (-1 : Int32)) M3
      else
        ck (gK M3 x0 = 7) (bR (gR M3 x0 10) fun q6 => ck (gK M3 q6 = 0) (bd (f_X0_reaches q6 x2 M3) fun v8 M7 =>
        (if v8 = 0 then
          f_X7_yields_24 n x0 x2 (x3 + (-1 : Int32)) M7
        else
          some (x3, M7)))))))))
set_option maxRecDepth 20000 in
set_option maxHeartbeats 4000000 in
theorem s_X7_yields_24 {z : Zt} {K : Int32 → Mm → Prop} (hz : Good z RX7 cX7_yields 4 rX7_yields (some .int)) (hq : Ret z zI K) : ∀ (n : Nat) (x0 : Nat) (x2 : Int32) (x3 : Int32) (M : Mm), Sim z 24 [(0, .ref x0), (2, .int x2), (3, .int x3)] [] M 0 0 (f_X7_yields_24 n x0 x2 x3 M) K := by
  intro n
  induction n with
  | zero => exact fun _ _ _ _ => r_none
  | succ n ih =>
    intro x0 x2 x3 M
    unfold f_X7_yields_24
    refine r_iload_n hz dX7_yields_24 2 rfl ?_
    refine r_if_lt (tgt := 62) hz dX7_yields_25 rfl ?_ ?_
    · refine r_bipush (v := -2) hz dX7_yields_62 rfl ?_
      exact r_iret hz hq dX7_yields_64 (Nat.le_of_ble_eq_true rfl) (Nat.le_of_ble_eq_true rfl)
    · refine r_aload_n hz dX7_yields_28 0 rfl ?_
      refine r_getR (j := 10) cl7 hz dX7_yields_29 (by decide) wm_2_114 rfl (fun q1 => ?_)
      refine r_aload_n hz dX7_yields_32 0 rfl ?_
      refine r_getR (j := 8) cl7 hz dX7_yields_33 (by decide) wm_2_112 rfl (fun q2 => ?_)
      refine r_iload_n hz dX7_yields_36 2 rfl ?_
      refine r_callVi (As := fun _ => [.ref q2, .int x3]) cl0 hz (fun _ _ h => t_X0_weigh _ _ _ _ _ _ h) cal_X0_weigh dX7_yields_37 wm_4_98 wm_4_99 wm_4_100 rfl rfl (Nat.le_of_ble_eq_true rfl) ⟨(Nat.le_of_ble_eq_true rfl), (Nat.le_of_ble_eq_true rfl)⟩ ⟨(Nat.le_of_ble_eq_true rfl), (Nat.le_of_ble_eq_true rfl)⟩ (fun v4 M3 => ?_)
      refine r_if_eq (tgt := 56) hz dX7_yields_40 rfl ?_ ?_
      · refine r_iinc (v := (x3 + (-1 : Int32))) (lv' := [(3, .int (x3 + (-1 : Int32))), (0, .ref x0), (2, .int x2)]) hz dX7_yields_56 2 rfl rfl (by decide) rfl ?_
        refine r_goto (tgt := 24) hz dX7_yields_59 rfl ?_
        refine r_sub [1, 2, 0] rfl ?_
        exact ih x0 x2 (x3 + (-1 : Int32)) M3
      · refine r_aload_n hz dX7_yields_43 0 rfl ?_
        refine r_getR (j := 10) cl7 hz dX7_yields_44 (by decide) wm_2_114 rfl (fun q6 => ?_)
        refine r_iload_n hz dX7_yields_47 1 rfl ?_
        refine r_callVi (As := fun _ => [.int x2]) cl0 hz (fun _ _ h => t_X0_reaches _ _ _ _ _ h) cal_X0_reaches dX7_yields_48 wm_4_130 wm_4_131 wm_4_132 rfl rfl (Nat.le_of_ble_eq_true rfl) ⟨(Nat.le_of_ble_eq_true rfl), (Nat.le_of_ble_eq_true rfl)⟩ ⟨(Nat.le_of_ble_eq_true rfl), (Nat.le_of_ble_eq_true rfl)⟩ (fun v8 M7 => ?_)
        refine r_if_eq (tgt := 56) hz dX7_yields_51 rfl ?_ ?_
        · refine r_iinc (v := (x3 + (-1 : Int32))) (lv' := [(3, .int (x3 + (-1 : Int32))), (0, .ref x0), (2, .int x2)]) hz dX7_yields_56 2 rfl rfl (by decide) rfl ?_
          refine r_goto (tgt := 24) hz dX7_yields_59 rfl ?_
          refine r_sub [1, 2, 0] rfl ?_
          exact ih x0 x2 (x3 + (-1 : Int32)) M7
        · refine r_iload_n hz dX7_yields_54 2 rfl ?_
          exact r_iret hz hq dX7_yields_55 (Nat.le_of_ble_eq_true rfl) (Nat.le_of_ble_eq_true rfl)
def f_X7_yields (p0 : Nat) (p1 : Int32) (p2 : Int32) (M : Mm) : Option (Int32 × Mm) :=
  (if p2 < (1 : Int32) then
    some ((-1 : Int32), M)
  else
    (if (99999 : Int32) < p2 then
      some ((-1 : Int32), M)
    else
      ck (gK M p0 = 7) (bd (f_X7_foreseeStanding p0 p1 M) fun v2 M1 =>
      (if ¬ v2 = 0 then
        f_X7_yields_24 FU p0 p2 (99 : Int32) M1
      else
        some ((-1 : Int32), M1)))))
set_option maxRecDepth 20000 in
set_option maxHeartbeats 4000000 in
theorem t_X7_yields (p0 : Nat) (p1 : Int32) (p2 : Int32) (M : Mm) (x : Int32) (M' : Mm) (h : f_X7_yields p0 p1 p2 M = some (x, M')) : Ctr yX7_yields cX7_yields 4 (some .int) rX7_yields (fun _ => [.ref p0, .int p1, .int p2]) M (zI x) M' := by
  refine ctr_of (plainFor_of_name (by decide)) (fun _ => Nat.le_of_ble_eq_true rfl) (fun z hz hin hq => ?_)
  have key : Sim z 0 [(0, .ref p0), (1, .int p1), (2, .int p2)] [] M 0 0 (f_X7_yields p0 p1 p2 M) (fun a b => a = x ∧ b = M') := by
    have hq : Ret z zI (fun a b => a = x ∧ b = M') := fun a b e => by rw [e.1, e.2]; exact hq
    unfold f_X7_yields
    refine r_iload_n hz dX7_yields_0 2 rfl ?_
    refine r_iconst (v := 1) hz dX7_yields_1 rfl ?_
    refine r_icmp_lt (tgt := 19) hz dX7_yields_2 rfl ?_ ?_
    · refine r_iconst (v := -1) hz dX7_yields_19 rfl ?_
      exact r_iret hz hq dX7_yields_20 (Nat.le_of_ble_eq_true rfl) (Nat.le_of_ble_eq_true rfl)
    · refine r_iload_n hz dX7_yields_5 2 rfl ?_
      refine r_ldc (v := 99999) hz dX7_yields_6 wm_4_36 ?_
      refine r_icmp_gt (tgt := 19) hz dX7_yields_8 rfl ?_ ?_
      · refine r_iconst (v := -1) hz dX7_yields_19 rfl ?_
        exact r_iret hz hq dX7_yields_20 (Nat.le_of_ble_eq_true rfl) (Nat.le_of_ble_eq_true rfl)
      · refine r_aload_n hz dX7_yields_11 0 rfl ?_
        refine r_iload_n hz dX7_yields_12 1 rfl ?_
        refine r_callVi (As := fun _ => [.int p1]) cl7 hz (fun _ _ h => t_X7_foreseeStanding _ _ _ _ _ h) cal_X7_foreseeStanding dX7_yields_13 wm_4_83 wm_4_85 wm_p_38 rfl rfl (Nat.le_of_ble_eq_true rfl) ⟨(Nat.le_of_ble_eq_true rfl), (Nat.le_of_ble_eq_true rfl)⟩ ⟨(Nat.le_of_ble_eq_true rfl), (Nat.le_of_ble_eq_true rfl)⟩ (fun v2 M1 => ?_)
        refine r_if_ne (tgt := 21) hz dX7_yields_16 rfl ?_ ?_
        · refine r_bipush (v := 99) hz dX7_yields_21 rfl ?_
          refine r_istore_n (lv' := [(3, .int (99 : Int32)), (0, .ref p0), (1, .int p1), (2, .int p2)]) hz dX7_yields_23 (by decide) rfl ?_
          refine r_sub [1, 3, 0] rfl ?_
          exact s_X7_yields_24 hz hq FU p0 p2 (99 : Int32) M1
        · refine r_iconst (v := -1) hz dX7_yields_19 rfl ?_
          exact r_iret hz hq dX7_yields_20 (Nat.le_of_ble_eq_true rfl) (Nat.le_of_ble_eq_true rfl)
  exact key x M' h ⟨rfl, rfl⟩
theorem dX7_choose_0 : decode cX7_choose 0 = .ok (.iload_n 1, 1) := by decide +kernel
theorem dX7_choose_1 : decode cX7_choose 1 = .ok (.ifCond .lt 8, 3) := by decide +kernel
theorem dX7_choose_4 : decode cX7_choose 4 = .ok (.iload_n 1, 1) := by decide +kernel
theorem dX7_choose_5 : decode cX7_choose 5 = .ok (.iload_n 0, 1) := by decide +kernel
theorem dX7_choose_6 : decode cX7_choose 6 = .ok (.if_icmp .le 5, 3) := by decide +kernel
theorem dX7_choose_9 : decode cX7_choose 9 = .ok (.lconst 0, 1) := by decide +kernel
theorem dX7_choose_10 : decode cX7_choose 10 = .ok (.lreturn, 1) := by decide +kernel
theorem dX7_choose_11 : decode cX7_choose 11 = .ok (.iload_n 1, 1) := by decide +kernel
theorem dX7_choose_12 : decode cX7_choose 12 = .ok (.iload_n 0, 1) := by decide +kernel
theorem dX7_choose_13 : decode cX7_choose 13 = .ok (.iload_n 1, 1) := by decide +kernel
theorem dX7_choose_14 : decode cX7_choose 14 = .ok (.isub, 1) := by decide +kernel
theorem dX7_choose_15 : decode cX7_choose 15 = .ok (.invokestatic 347, 3) := by decide +kernel
theorem dX7_choose_18 : decode cX7_choose 18 = .ok (.istore_n 2, 1) := by decide +kernel
theorem dX7_choose_19 : decode cX7_choose 19 = .ok (.lconst 1, 1) := by decide +kernel
theorem dX7_choose_20 : decode cX7_choose 20 = .ok (.lstore_n 3, 1) := by decide +kernel
theorem dX7_choose_21 : decode cX7_choose 21 = .ok (.iconst 1, 1) := by decide +kernel
theorem dX7_choose_22 : decode cX7_choose 22 = .ok (.istore 5, 2) := by decide +kernel
theorem dX7_choose_24 : decode cX7_choose 24 = .ok (.iload 5, 2) := by decide +kernel
theorem dX7_choose_26 : decode cX7_choose 26 = .ok (.iload_n 2, 1) := by decide +kernel
theorem dX7_choose_27 : decode cX7_choose 27 = .ok (.if_icmp .gt 23, 3) := by decide +kernel
theorem dX7_choose_30 : decode cX7_choose 30 = .ok (.lload_n 3, 1) := by decide +kernel
theorem dX7_choose_31 : decode cX7_choose 31 = .ok (.iload_n 0, 1) := by decide +kernel
theorem dX7_choose_32 : decode cX7_choose 32 = .ok (.iload_n 2, 1) := by decide +kernel
theorem dX7_choose_33 : decode cX7_choose 33 = .ok (.isub, 1) := by decide +kernel
theorem dX7_choose_34 : decode cX7_choose 34 = .ok (.iload 5, 2) := by decide +kernel
theorem dX7_choose_36 : decode cX7_choose 36 = .ok (.iadd, 1) := by decide +kernel
theorem dX7_choose_37 : decode cX7_choose 37 = .ok (.i2l, 1) := by decide +kernel
theorem dX7_choose_38 : decode cX7_choose 38 = .ok (.lmul, 1) := by decide +kernel
theorem dX7_choose_39 : decode cX7_choose 39 = .ok (.iload 5, 2) := by decide +kernel
theorem dX7_choose_41 : decode cX7_choose 41 = .ok (.i2l, 1) := by decide +kernel
theorem dX7_choose_42 : decode cX7_choose 42 = .ok (.ldiv, 1) := by decide +kernel
theorem dX7_choose_43 : decode cX7_choose 43 = .ok (.lstore_n 3, 1) := by decide +kernel
theorem dX7_choose_44 : decode cX7_choose 44 = .ok (.iinc 5 1, 3) := by decide +kernel
theorem dX7_choose_47 : decode cX7_choose 47 = .ok (.goto (-23), 3) := by decide +kernel
theorem dX7_choose_50 : decode cX7_choose 50 = .ok (.lload_n 3, 1) := by decide +kernel
theorem dX7_choose_51 : decode cX7_choose 51 = .ok (.lreturn, 1) := by decide +kernel
abbrev rX7_choose : Room := { frames := 1, cells := 0, slots := 0, locals := 21 }
theorem cal_X7_choose : CalOk yX7_choose cX7_choose 6 (some .long) 2 := ⟨wm_4_140, wm_1_1, by decide, by decide, by decide +kernel⟩
def f_X7_choose_24 : Nat → Int32 → Int32 → Int64 → Int32 → Mm → Option (Int64 × Mm)
  | 0, _, _, _, _, _ => none
  | n + 1, x0, x2, x3, x5, M =>
    (if x2 < x5 then
      some (x3, M)
    else
      ck (¬ (x5).toInt64 = 0) (nm ((x3 * (((x0 - x2) + x5)).toInt64) / (x5).toInt64) fun v1 =>
      f_X7_choose_24 n x0 x2 v1 (x5 + (1 : Int32)) M))
set_option maxRecDepth 20000 in
set_option maxHeartbeats 4000000 in
theorem s_X7_choose_24 {z : Zt} {K : Int64 → Mm → Prop} (hz : Good z RX7 cX7_choose 6 rX7_choose (some .long)) (hq : Ret z zL K) : ∀ (n : Nat) (x0 : Int32) (x2 : Int32) (x3 : Int64) (x5 : Int32) (M : Mm), Sim z 24 [(0, .int x0), (2, .int x2), (3, .long x3), (5, .int x5)] [] M 0 0 (f_X7_choose_24 n x0 x2 x3 x5 M) K := by
  intro n
  induction n with
  | zero => exact fun _ _ _ _ _ => r_none
  | succ n ih =>
    intro x0 x2 x3 x5 M
    unfold f_X7_choose_24
    refine r_iload hz dX7_choose_24 3 rfl ?_
    refine r_iload_n hz dX7_choose_26 1 rfl ?_
    refine r_icmp_gt (tgt := 50) hz dX7_choose_27 rfl ?_ ?_
    · refine r_lload_n hz dX7_choose_50 2 rfl ?_
      exact r_lret hz hq dX7_choose_51 (Nat.le_of_ble_eq_true rfl) (Nat.le_of_ble_eq_true rfl)
    · refine r_lload_n hz dX7_choose_30 2 rfl ?_
      refine r_iload_n hz dX7_choose_31 0 rfl ?_
      refine r_iload_n hz dX7_choose_32 1 rfl ?_
      refine r_isub hz dX7_choose_33 ?_
      refine r_iload hz dX7_choose_34 3 rfl ?_
      refine r_iadd hz dX7_choose_36 ?_
      refine r_i2l hz dX7_choose_37 ?_
      refine r_lmul hz dX7_choose_38 ?_
      refine r_iload hz dX7_choose_39 3 rfl ?_
      refine r_i2l hz dX7_choose_41 ?_
      refine r_ldiv hz dX7_choose_42 ?_
      refine r_nml (fun v1 => ?_)
      refine r_lstore_n (lv' := [(3, .long v1), (0, .int x0), (2, .int x2), (5, .int x5)]) hz dX7_choose_43 (by decide) rfl ?_
      refine r_iinc (v := (x5 + (1 : Int32))) (lv' := [(5, .int (x5 + (1 : Int32))), (3, .long v1), (0, .int x0), (2, .int x2)]) hz dX7_choose_44 3 rfl rfl (by decide) rfl ?_
      refine r_goto (tgt := 24) hz dX7_choose_47 rfl ?_
      refine r_sub [2, 3, 1, 0] rfl ?_
      exact ih x0 x2 v1 (x5 + (1 : Int32)) M
def f_X7_choose (p0 : Int32) (p1 : Int32) (M : Mm) : Option (Int64 × Mm) :=
  (if p1 < 0 then
    some ((0 : Int64), M)
  else
    (if p1 ≤ p0 then
      bd (f_J9_min_7cf53 p1 (p0 - p1) M) fun v2 M1 =>
      f_X7_choose_24 FU p0 v2 (1 : Int64) (1 : Int32) M1
    else
      some ((0 : Int64), M)))
set_option maxRecDepth 20000 in
set_option maxHeartbeats 4000000 in
theorem t_X7_choose (p0 : Int32) (p1 : Int32) (M : Mm) (x : Int64) (M' : Mm) (h : f_X7_choose p0 p1 M = some (x, M')) : Ctr yX7_choose cX7_choose 6 (some .long) rX7_choose (fun _ => [.int p0, .int p1]) M (zL x) M' := by
  refine ctr_of (plainFor_of_name (by decide)) (fun _ => Nat.le_of_ble_eq_true rfl) (fun z hz hin hq => ?_)
  have key : Sim z 0 [(0, .int p0), (1, .int p1)] [] M 0 0 (f_X7_choose p0 p1 M) (fun a b => a = x ∧ b = M') := by
    have hq : Ret z zL (fun a b => a = x ∧ b = M') := fun a b e => by rw [e.1, e.2]; exact hq
    unfold f_X7_choose
    refine r_iload_n hz dX7_choose_0 1 rfl ?_
    refine r_if_lt (tgt := 9) hz dX7_choose_1 rfl ?_ ?_
    · refine r_lconst (v := 0) hz dX7_choose_9 rfl ?_
      exact r_lret hz hq dX7_choose_10 (Nat.le_of_ble_eq_true rfl) (Nat.le_of_ble_eq_true rfl)
    · refine r_iload_n hz dX7_choose_4 1 rfl ?_
      refine r_iload_n hz dX7_choose_5 0 rfl ?_
      refine r_icmp_le (tgt := 11) hz dX7_choose_6 rfl ?_ ?_
      · refine r_iload_n hz dX7_choose_11 1 rfl ?_
        refine r_iload_n hz dX7_choose_12 0 rfl ?_
        refine r_iload_n hz dX7_choose_13 1 rfl ?_
        refine r_isub hz dX7_choose_14 ?_
        refine r_callSi (As := fun _ => [.int p1, .int (p0 - p1)]) hz (fun _ _ h => t_J9_min_7cf53 _ _ _ _ _ h) cal_J9_min_7cf53 dX7_choose_15 wm_4_141 wm_2_165 rfl rfl (Nat.le_of_ble_eq_true rfl) ⟨(Nat.le_of_ble_eq_true rfl), (Nat.le_of_ble_eq_true rfl)⟩ ⟨(Nat.le_of_ble_eq_true rfl), (Nat.le_of_ble_eq_true rfl)⟩ (fun v2 M1 => ?_)
        refine r_istore_n (lv' := [(2, .int v2), (0, .int p0), (1, .int p1)]) hz dX7_choose_18 (by decide) rfl ?_
        refine r_lconst (v := 1) hz dX7_choose_19 rfl ?_
        refine r_lstore_n (lv' := [(3, .long (1 : Int64)), (2, .int v2), (0, .int p0), (1, .int p1)]) hz dX7_choose_20 (by decide) rfl ?_
        refine r_iconst (v := 1) hz dX7_choose_21 rfl ?_
        refine r_istore (lv' := [(5, .int (1 : Int32)), (3, .long (1 : Int64)), (2, .int v2), (0, .int p0), (1, .int p1)]) hz dX7_choose_22 (by decide) rfl ?_
        refine r_sub [3, 2, 1, 0] rfl ?_
        exact s_X7_choose_24 hz hq FU p0 v2 (1 : Int64) (1 : Int32) M1
      · refine r_lconst (v := 0) hz dX7_choose_9 rfl ?_
        exact r_lret hz hq dX7_choose_10 (Nat.le_of_ble_eq_true rfl) (Nat.le_of_ble_eq_true rfl)
  exact key x M' h ⟨rfl, rfl⟩
theorem dX7_atLeast_0 : decode cX7_atLeast 0 = .ok (.aload_n 0, 1) := by decide +kernel
theorem dX7_atLeast_1 : decode cX7_atLeast 1 = .ok (.iload_n 1, 1) := by decide +kernel
theorem dX7_atLeast_2 : decode cX7_atLeast 2 = .ok (.invokevirtual 156, 3) := by decide +kernel
theorem dX7_atLeast_5 : decode cX7_atLeast 5 = .ok (.ifCond .eq 29, 3) := by decide +kernel
theorem dX7_atLeast_8 : decode cX7_atLeast 8 = .ok (.aload_n 0, 1) := by decide +kernel
theorem dX7_atLeast_9 : decode cX7_atLeast 9 = .ok (.iload_n 2, 1) := by decide +kernel
theorem dX7_atLeast_10 : decode cX7_atLeast 10 = .ok (.invokevirtual 116, 3) := by decide +kernel
theorem dX7_atLeast_13 : decode cX7_atLeast 13 = .ok (.ifCond .eq 21, 3) := by decide +kernel
theorem dX7_atLeast_16 : decode cX7_atLeast 16 = .ok (.iload_n 3, 1) := by decide +kernel
theorem dX7_atLeast_17 : decode cX7_atLeast 17 = .ok (.ifCond .lt 17, 3) := by decide +kernel
theorem dX7_atLeast_20 : decode cX7_atLeast 20 = .ok (.iload_n 3, 1) := by decide +kernel
theorem dX7_atLeast_21 : decode cX7_atLeast 21 = .ok (.bipush 60, 2) := by decide +kernel
theorem dX7_atLeast_23 : decode cX7_atLeast 23 = .ok (.if_icmp .gt 11, 3) := by decide +kernel
theorem dX7_atLeast_26 : decode cX7_atLeast 26 = .ok (.aload_n 0, 1) := by decide +kernel
theorem dX7_atLeast_27 : decode cX7_atLeast 27 = .ok (.iload_n 2, 1) := by decide +kernel
theorem dX7_atLeast_28 : decode cX7_atLeast 28 = .ok (.invokevirtual 250, 3) := by decide +kernel
theorem dX7_atLeast_31 : decode cX7_atLeast 31 = .ok (.ifCond .eq 7, 3) := by decide +kernel
theorem dX7_atLeast_34 : decode cX7_atLeast 34 = .ok (.ldc2_w 267, 3) := by decide +kernel
theorem dX7_atLeast_37 : decode cX7_atLeast 37 = .ok (.lreturn, 1) := by decide +kernel
theorem dX7_atLeast_38 : decode cX7_atLeast 38 = .ok (.aload_n 0, 1) := by decide +kernel
theorem dX7_atLeast_39 : decode cX7_atLeast 39 = .ok (.getfield 52, 3) := by decide +kernel
theorem dX7_atLeast_42 : decode cX7_atLeast 42 = .ok (.aload_n 0, 1) := by decide +kernel
theorem dX7_atLeast_43 : decode cX7_atLeast 43 = .ok (.getfield 10, 3) := by decide +kernel
theorem dX7_atLeast_46 : decode cX7_atLeast 46 = .ok (.aload_n 0, 1) := by decide +kernel
theorem dX7_atLeast_47 : decode cX7_atLeast 47 = .ok (.getfield 19, 3) := by decide +kernel
theorem dX7_atLeast_50 : decode cX7_atLeast 50 = .ok (.iload_n 2, 1) := by decide +kernel
theorem dX7_atLeast_51 : decode cX7_atLeast 51 = .ok (.invokevirtual 208, 3) := by decide +kernel
theorem dX7_atLeast_54 : decode cX7_atLeast 54 = .ok (.aload_n 0, 1) := by decide +kernel
theorem dX7_atLeast_55 : decode cX7_atLeast 55 = .ok (.getfield 52, 3) := by decide +kernel
theorem dX7_atLeast_58 : decode cX7_atLeast 58 = .ok (.getfield 225, 3) := by decide +kernel
theorem dX7_atLeast_61 : decode cX7_atLeast 61 = .ok (.aload_n 0, 1) := by decide +kernel
theorem dX7_atLeast_62 : decode cX7_atLeast 62 = .ok (.getfield 19, 3) := by decide +kernel
theorem dX7_atLeast_65 : decode cX7_atLeast 65 = .ok (.getfield 102, 3) := by decide +kernel
theorem dX7_atLeast_68 : decode cX7_atLeast 68 = .ok (.iconst 1, 1) := by decide +kernel
theorem dX7_atLeast_69 : decode cX7_atLeast 69 = .ok (.iadd, 1) := by decide +kernel
theorem dX7_atLeast_70 : decode cX7_atLeast 70 = .ok (.iaload, 1) := by decide +kernel
theorem dX7_atLeast_71 : decode cX7_atLeast 71 = .ok (.istore 4, 2) := by decide +kernel
theorem dX7_atLeast_73 : decode cX7_atLeast 73 = .ok (.aload_n 0, 1) := by decide +kernel
theorem dX7_atLeast_74 : decode cX7_atLeast 74 = .ok (.getfield 19, 3) := by decide +kernel
theorem dX7_atLeast_77 : decode cX7_atLeast 77 = .ok (.aload_n 0, 1) := by decide +kernel
theorem dX7_atLeast_78 : decode cX7_atLeast 78 = .ok (.getfield 10, 3) := by decide +kernel
theorem dX7_atLeast_81 : decode cX7_atLeast 81 = .ok (.iload_n 2, 1) := by decide +kernel
theorem dX7_atLeast_82 : decode cX7_atLeast 82 = .ok (.iconst 0, 1) := by decide +kernel
theorem dX7_atLeast_83 : decode cX7_atLeast 83 = .ok (.iload_n 1, 1) := by decide +kernel
theorem dX7_atLeast_84 : decode cX7_atLeast 84 = .ok (.invokevirtual 162, 3) := by decide +kernel
theorem dX7_atLeast_87 : decode cX7_atLeast 87 = .ok (.istore 5, 2) := by decide +kernel
theorem dX7_atLeast_89 : decode cX7_atLeast 89 = .ok (.lconst 0, 1) := by decide +kernel
theorem dX7_atLeast_90 : decode cX7_atLeast 90 = .ok (.lstore 6, 2) := by decide +kernel
theorem dX7_atLeast_92 : decode cX7_atLeast 92 = .ok (.iload_n 3, 1) := by decide +kernel
theorem dX7_atLeast_93 : decode cX7_atLeast 93 = .ok (.istore 8, 2) := by decide +kernel
theorem dX7_atLeast_95 : decode cX7_atLeast 95 = .ok (.iload 8, 2) := by decide +kernel
theorem dX7_atLeast_97 : decode cX7_atLeast 97 = .ok (.iload 5, 2) := by decide +kernel
theorem dX7_atLeast_99 : decode cX7_atLeast 99 = .ok (.if_icmp .gt 47, 3) := by decide +kernel
theorem dX7_atLeast_102 : decode cX7_atLeast 102 = .ok (.iload 8, 2) := by decide +kernel
theorem dX7_atLeast_104 : decode cX7_atLeast 104 = .ok (.iload 4, 2) := by decide +kernel
theorem dX7_atLeast_106 : decode cX7_atLeast 106 = .ok (.if_icmp .gt 40, 3) := by decide +kernel
theorem dX7_atLeast_109 : decode cX7_atLeast 109 = .ok (.lload 6, 2) := by decide +kernel
theorem dX7_atLeast_111 : decode cX7_atLeast 111 = .ok (.iload 5, 2) := by decide +kernel
theorem dX7_atLeast_113 : decode cX7_atLeast 113 = .ok (.iload 8, 2) := by decide +kernel
theorem dX7_atLeast_115 : decode cX7_atLeast 115 = .ok (.invokestatic 304, 3) := by decide +kernel
theorem dX7_atLeast_118 : decode cX7_atLeast 118 = .ok (.aload_n 0, 1) := by decide +kernel
theorem dX7_atLeast_119 : decode cX7_atLeast 119 = .ok (.getfield 52, 3) := by decide +kernel
theorem dX7_atLeast_122 : decode cX7_atLeast 122 = .ok (.getfield 281, 3) := by decide +kernel
theorem dX7_atLeast_125 : decode cX7_atLeast 125 = .ok (.iload 5, 2) := by decide +kernel
theorem dX7_atLeast_127 : decode cX7_atLeast 127 = .ok (.isub, 1) := by decide +kernel
theorem dX7_atLeast_128 : decode cX7_atLeast 128 = .ok (.iload 4, 2) := by decide +kernel
theorem dX7_atLeast_130 : decode cX7_atLeast 130 = .ok (.iload 8, 2) := by decide +kernel
theorem dX7_atLeast_132 : decode cX7_atLeast 132 = .ok (.isub, 1) := by decide +kernel
theorem dX7_atLeast_133 : decode cX7_atLeast 133 = .ok (.invokestatic 304, 3) := by decide +kernel
theorem dX7_atLeast_136 : decode cX7_atLeast 136 = .ok (.lmul, 1) := by decide +kernel
theorem dX7_atLeast_137 : decode cX7_atLeast 137 = .ok (.ladd, 1) := by decide +kernel
theorem dX7_atLeast_138 : decode cX7_atLeast 138 = .ok (.lstore 6, 2) := by decide +kernel
theorem dX7_atLeast_140 : decode cX7_atLeast 140 = .ok (.iinc 8 1, 3) := by decide +kernel
theorem dX7_atLeast_143 : decode cX7_atLeast 143 = .ok (.goto (-48), 3) := by decide +kernel
theorem dX7_atLeast_146 : decode cX7_atLeast 146 = .ok (.aload_n 0, 1) := by decide +kernel
theorem dX7_atLeast_147 : decode cX7_atLeast 147 = .ok (.lload 6, 2) := by decide +kernel
theorem dX7_atLeast_149 : decode cX7_atLeast 149 = .ok (.aload_n 0, 1) := by decide +kernel
theorem dX7_atLeast_150 : decode cX7_atLeast 150 = .ok (.getfield 52, 3) := by decide +kernel
theorem dX7_atLeast_153 : decode cX7_atLeast 153 = .ok (.getfield 281, 3) := by decide +kernel
theorem dX7_atLeast_156 : decode cX7_atLeast 156 = .ok (.iload 4, 2) := by decide +kernel
theorem dX7_atLeast_158 : decode cX7_atLeast 158 = .ok (.invokestatic 304, 3) := by decide +kernel
theorem dX7_atLeast_161 : decode cX7_atLeast 161 = .ok (.invokevirtual 284, 3) := by decide +kernel
theorem dX7_atLeast_164 : decode cX7_atLeast 164 = .ok (.lreturn, 1) := by decide +kernel
abbrev rX7_atLeast : Room := { frames := 4, cells := 0, slots := 0, locals := 92 }
theorem cal_X7_atLeast : CalOk yX7_atLeast cX7_atLeast 9 (some .long) 3 := ⟨wm_4_137, wm_1_1, by decide, by decide, by decide +kernel⟩
def f_X7_atLeast_95 : Nat → Nat → Int32 → Int32 → Int64 → Int32 → Mm → Option (Int64 × Mm)
  | 0, _, _, _, _, _, _ => none
  | n + 1, x0, x4, x5, x6, x8, M =>
    (if x5 < x8 then
      ck (gK M x0 = 7) (bR (gR M x0 8) fun q1 => ck (gK M q1 = 4) (bd (f_X7_choose (gI M q1 10) x4 M) fun v3 M2 =>
      ck (gK M2 x0 = 7) (bd (f_X7_tell x0 x6 v3 M2) fun v5 M4 =>
      some (v5, M4))))
    else
      (if x4 < x8 then
        ck (gK M x0 = 7) (bR (gR M x0 8) fun q6 => ck (gK M q6 = 4) (bd (f_X7_choose (gI M q6 10) x4 M) fun v8 M7 =>
        ck (gK M7 x0 = 7) (bd (f_X7_tell x0 x6 v8 M7) fun v10 M9 =>
        some (v10, M9))))
      else
        bd (f_X7_choose x5 x8 M) fun v12 M11 =>
        ck (gK M11 x0 = 7) (bR (gR M11 x0 8) fun q13 => ck (gK M11 q13 = 4) (bd (f_X7_choose ((gI M11 q13 10) - x5) (x4 - x8) M11) fun v15 M14 =>
        nm (x6 + (v12 * v15)) fun v16 =>
        f_X7_atLeast_95 n x0 x4 x5 v16 (x8 + (1 : Int32)) M14))))
set_option maxRecDepth 20000 in
set_option maxHeartbeats 4000000 in
theorem s_X7_atLeast_95 {z : Zt} {K : Int64 → Mm → Prop} (hz : Good z RX7 cX7_atLeast 9 rX7_atLeast (some .long)) (hq : Ret z zL K) : ∀ (n : Nat) (x0 : Nat) (x4 : Int32) (x5 : Int32) (x6 : Int64) (x8 : Int32) (M : Mm), Sim z 95 [(0, .ref x0), (4, .int x4), (5, .int x5), (6, .long x6), (8, .int x8)] [] M 0 0 (f_X7_atLeast_95 n x0 x4 x5 x6 x8 M) K := by
  intro n
  induction n with
  | zero => exact fun _ _ _ _ _ _ => r_none
  | succ n ih =>
    intro x0 x4 x5 x6 x8 M
    unfold f_X7_atLeast_95
    refine r_iload hz dX7_atLeast_95 4 rfl ?_
    refine r_iload hz dX7_atLeast_97 2 rfl ?_
    refine r_icmp_gt (tgt := 146) hz dX7_atLeast_99 rfl ?_ ?_
    · refine r_aload_n hz dX7_atLeast_146 0 rfl ?_
      refine r_lload hz dX7_atLeast_147 3 rfl ?_
      refine r_aload_n hz dX7_atLeast_149 0 rfl ?_
      refine r_getR (j := 8) cl7 hz dX7_atLeast_150 (by decide) wm_2_112 rfl (fun q1 => ?_)
      refine r_getI (j := 10) cl4 hz dX7_atLeast_153 (by decide) wm_2_9 rfl ?_
      refine r_iload hz dX7_atLeast_156 1 rfl ?_
      refine r_callSl (As := fun _ => [.int (gI M q1 10), .int x4]) hz (fun _ _ h => t_X7_choose _ _ _ _ _ h) cal_X7_choose dX7_atLeast_158 wm_4_138 wm_4_139 rfl rfl (Nat.le_of_ble_eq_true rfl) ⟨(Nat.le_of_ble_eq_true rfl), (Nat.le_of_ble_eq_true rfl)⟩ ⟨(Nat.le_of_ble_eq_true rfl), (Nat.le_of_ble_eq_true rfl)⟩ (fun v3 M2 => ?_)
      refine r_callVl (As := fun _ => [.long x6, .long v3]) cl7 hz (fun _ _ h => t_X7_tell _ _ _ _ _ _ h) cal_X7_tell dX7_atLeast_161 wm_4_87 wm_4_89 wm_p_39 rfl rfl (Nat.le_of_ble_eq_true rfl) ⟨(Nat.le_of_ble_eq_true rfl), (Nat.le_of_ble_eq_true rfl)⟩ ⟨(Nat.le_of_ble_eq_true rfl), (Nat.le_of_ble_eq_true rfl)⟩ (fun v5 M4 => ?_)
      exact r_lret hz hq dX7_atLeast_164 (Nat.le_of_ble_eq_true rfl) (Nat.le_of_ble_eq_true rfl)
    · refine r_iload hz dX7_atLeast_102 4 rfl ?_
      refine r_iload hz dX7_atLeast_104 1 rfl ?_
      refine r_icmp_gt (tgt := 146) hz dX7_atLeast_106 rfl ?_ ?_
      · refine r_aload_n hz dX7_atLeast_146 0 rfl ?_
        refine r_lload hz dX7_atLeast_147 3 rfl ?_
        refine r_aload_n hz dX7_atLeast_149 0 rfl ?_
        refine r_getR (j := 8) cl7 hz dX7_atLeast_150 (by decide) wm_2_112 rfl (fun q6 => ?_)
        refine r_getI (j := 10) cl4 hz dX7_atLeast_153 (by decide) wm_2_9 rfl ?_
        refine r_iload hz dX7_atLeast_156 1 rfl ?_
        refine r_callSl (As := fun _ => [.int (gI M q6 10), .int x4]) hz (fun _ _ h => t_X7_choose _ _ _ _ _ h) cal_X7_choose dX7_atLeast_158 wm_4_138 wm_4_139 rfl rfl (Nat.le_of_ble_eq_true rfl) ⟨(Nat.le_of_ble_eq_true rfl), (Nat.le_of_ble_eq_true rfl)⟩ ⟨(Nat.le_of_ble_eq_true rfl), (Nat.le_of_ble_eq_true rfl)⟩ (fun v8 M7 => ?_)
        refine r_callVl (As := fun _ => [.long x6, .long v8]) cl7 hz (fun _ _ h => t_X7_tell _ _ _ _ _ _ h) cal_X7_tell dX7_atLeast_161 wm_4_87 wm_4_89 wm_p_39 rfl rfl (Nat.le_of_ble_eq_true rfl) ⟨(Nat.le_of_ble_eq_true rfl), (Nat.le_of_ble_eq_true rfl)⟩ ⟨(Nat.le_of_ble_eq_true rfl), (Nat.le_of_ble_eq_true rfl)⟩ (fun v10 M9 => ?_)
        exact r_lret hz hq dX7_atLeast_164 (Nat.le_of_ble_eq_true rfl) (Nat.le_of_ble_eq_true rfl)
      · refine r_lload hz dX7_atLeast_109 3 rfl ?_
        refine r_iload hz dX7_atLeast_111 2 rfl ?_
        refine r_iload hz dX7_atLeast_113 4 rfl ?_
        refine r_callSl (As := fun _ => [.int x5, .int x8]) hz (fun _ _ h => t_X7_choose _ _ _ _ _ h) cal_X7_choose dX7_atLeast_115 wm_4_138 wm_4_139 rfl rfl (Nat.le_of_ble_eq_true rfl) ⟨(Nat.le_of_ble_eq_true rfl), (Nat.le_of_ble_eq_true rfl)⟩ ⟨(Nat.le_of_ble_eq_true rfl), (Nat.le_of_ble_eq_true rfl)⟩ (fun v12 M11 => ?_)
        refine r_aload_n hz dX7_atLeast_118 0 rfl ?_
        refine r_getR (j := 8) cl7 hz dX7_atLeast_119 (by decide) wm_2_112 rfl (fun q13 => ?_)
        refine r_getI (j := 10) cl4 hz dX7_atLeast_122 (by decide) wm_2_9 rfl ?_
        refine r_iload hz dX7_atLeast_125 2 rfl ?_
        refine r_isub hz dX7_atLeast_127 ?_
        refine r_iload hz dX7_atLeast_128 1 rfl ?_
        refine r_iload hz dX7_atLeast_130 4 rfl ?_
        refine r_isub hz dX7_atLeast_132 ?_
        refine r_callSl (As := fun _ => [.int ((gI M11 q13 10) - x5), .int (x4 - x8)]) hz (fun _ _ h => t_X7_choose _ _ _ _ _ h) cal_X7_choose dX7_atLeast_133 wm_4_138 wm_4_139 rfl rfl (Nat.le_of_ble_eq_true rfl) ⟨(Nat.le_of_ble_eq_true rfl), (Nat.le_of_ble_eq_true rfl)⟩ ⟨(Nat.le_of_ble_eq_true rfl), (Nat.le_of_ble_eq_true rfl)⟩ (fun v15 M14 => ?_)
        refine r_lmul hz dX7_atLeast_136 ?_
        refine r_ladd hz dX7_atLeast_137 ?_
        refine r_nml (fun v16 => ?_)
        refine r_lstore (lv' := [(6, .long v16), (0, .ref x0), (4, .int x4), (5, .int x5), (8, .int x8)]) hz dX7_atLeast_138 (by decide) rfl ?_
        refine r_iinc (v := (x8 + (1 : Int32))) (lv' := [(8, .int (x8 + (1 : Int32))), (6, .long v16), (0, .ref x0), (4, .int x4), (5, .int x5)]) hz dX7_atLeast_140 4 rfl rfl (by decide) rfl ?_
        refine r_goto (tgt := 95) hz dX7_atLeast_143 rfl ?_
        refine r_sub [2, 3, 4, 1, 0] rfl ?_
        exact ih x0 x4 x5 v16 (x8 + (1 : Int32)) M14
def f_X7_atLeast (p0 : Nat) (p1 : Int32) (p2 : Int32) (p3 : Int32) (M : Mm) : Option (Int64 × Mm) :=
  ck (gK M p0 = 7) (bd (f_X7_isHolder p0 p1 M) fun v2 M1 =>
  (if v2 = 0 then
    some ((-1 : Int64), M1)
  else
    ck (gK M1 p0 = 7) (bd (f_X7_isLoan p0 p2 M1) fun v4 M3 =>
    (if v4 = 0 then
      some ((-1 : Int64), M3)
    else
      (if p3 < 0 then
        some ((-1 : Int64), M3)
      else
        (if (60 : Int32) < p3 then
          some ((-1 : Int64), M3)
        else
          ck (gK M3 p0 = 7) (bd (f_X7_isOver p0 p2 M3) fun v6 M5 =>
          (if v6 = 0 then
            ck (gK M5 p0 = 7) (bR (gR M5 p0 8) fun q7 => ck (gK M5 p0 = 7) (bR (gR M5 p0 0) fun q8 => ck (gK M5 p0 = 7) (bR (gR M5 p0 1) fun q9 => ck (gK M5 q7 = 4) (bd (f_X4_foresee q7 q8 q9 p2 M5) fun _ M10 =>
            ck (gK M10 p0 = 7) (bR (gR M10 p0 8) fun q11 => ck (gK M10 q11 = 4) (bR (gR M10 q11 13) fun q12 => ck (gK M10 p0 = 7) (bR (gR M10 p0 1) fun q13 => ck (gK M10 q13 = 5) (ck (gK M10 q12 = 10 ∧ inb ((gI M10 q13 0) + (1 : Int32)) (gN M10 q12)) (nm (gI M10 q12 (((gI M10 q13 0) + (1 : Int32))).toNatClampNeg) fun v14 =>
            ck (gK M10 p0 = 7) (bR (gR M10 p0 1) fun q15 => ck (gK M10 p0 = 7) (bR (gR M10 p0 0) fun q16 => ck (gK M10 q15 = 5) (bd (f_X5_countHeld q15 q16 p2 (0 : Int32) p1 M10) fun v18 M17 =>
            f_X7_atLeast_95 FU p0 v14 v18 (0 : Int64) p3 M17))))))))))))
          else
            some ((-1 : Int64), M5)))))))))
set_option maxRecDepth 20000 in
set_option maxHeartbeats 4000000 in
theorem t_X7_atLeast (p0 : Nat) (p1 : Int32) (p2 : Int32) (p3 : Int32) (M : Mm) (x : Int64) (M' : Mm) (h : f_X7_atLeast p0 p1 p2 p3 M = some (x, M')) : Ctr yX7_atLeast cX7_atLeast 9 (some .long) rX7_atLeast (fun _ => [.ref p0, .int p1, .int p2, .int p3]) M (zL x) M' := by
  refine ctr_of (plainFor_of_name (by decide)) (fun _ => Nat.le_of_ble_eq_true rfl) (fun z hz hin hq => ?_)
  have key : Sim z 0 [(0, .ref p0), (1, .int p1), (2, .int p2), (3, .int p3)] [] M 0 0 (f_X7_atLeast p0 p1 p2 p3 M) (fun a b => a = x ∧ b = M') := by
    have hq : Ret z zL (fun a b => a = x ∧ b = M') := fun a b e => by rw [e.1, e.2]; exact hq
    unfold f_X7_atLeast
    refine r_aload_n hz dX7_atLeast_0 0 rfl ?_
    refine r_iload_n hz dX7_atLeast_1 1 rfl ?_
    refine r_callVi (As := fun _ => [.int p1]) cl7 hz (fun _ _ h => t_X7_isHolder _ _ _ _ _ h) cal_X7_isHolder dX7_atLeast_2 wm_3_141 wm_3_143 wm_p_24 rfl rfl (Nat.le_of_ble_eq_true rfl) ⟨(Nat.le_of_ble_eq_true rfl), (Nat.le_of_ble_eq_true rfl)⟩ ⟨(Nat.le_of_ble_eq_true rfl), (Nat.le_of_ble_eq_true rfl)⟩ (fun v2 M1 => ?_)
    refine r_if_eq (tgt := 34) hz dX7_atLeast_5 rfl ?_ ?_
    · refine r_ldc2 (v := -1) hz dX7_atLeast_34 wm_4_74 ?_
      exact r_lret hz hq dX7_atLeast_37 (Nat.le_of_ble_eq_true rfl) (Nat.le_of_ble_eq_true rfl)
    · refine r_aload_n hz dX7_atLeast_8 0 rfl ?_
      refine r_iload_n hz dX7_atLeast_9 2 rfl ?_
      refine r_callVi (As := fun _ => [.int p2]) cl7 hz (fun _ _ h => t_X7_isLoan _ _ _ _ _ h) cal_X7_isLoan dX7_atLeast_10 wm_3_149 wm_3_151 wm_p_25 rfl rfl (Nat.le_of_ble_eq_true rfl) ⟨(Nat.le_of_ble_eq_true rfl), (Nat.le_of_ble_eq_true rfl)⟩ ⟨(Nat.le_of_ble_eq_true rfl), (Nat.le_of_ble_eq_true rfl)⟩ (fun v4 M3 => ?_)
      refine r_if_eq (tgt := 34) hz dX7_atLeast_13 rfl ?_ ?_
      · refine r_ldc2 (v := -1) hz dX7_atLeast_34 wm_4_74 ?_
        exact r_lret hz hq dX7_atLeast_37 (Nat.le_of_ble_eq_true rfl) (Nat.le_of_ble_eq_true rfl)
      · refine r_iload_n hz dX7_atLeast_16 3 rfl ?_
        refine r_if_lt (tgt := 34) hz dX7_atLeast_17 rfl ?_ ?_
        · refine r_ldc2 (v := -1) hz dX7_atLeast_34 wm_4_74 ?_
          exact r_lret hz hq dX7_atLeast_37 (Nat.le_of_ble_eq_true rfl) (Nat.le_of_ble_eq_true rfl)
        · refine r_iload_n hz dX7_atLeast_20 3 rfl ?_
          refine r_bipush (v := 60) hz dX7_atLeast_21 rfl ?_
          refine r_icmp_gt (tgt := 34) hz dX7_atLeast_23 rfl ?_ ?_
          · refine r_ldc2 (v := -1) hz dX7_atLeast_34 wm_4_74 ?_
            exact r_lret hz hq dX7_atLeast_37 (Nat.le_of_ble_eq_true rfl) (Nat.le_of_ble_eq_true rfl)
          · refine r_aload_n hz dX7_atLeast_26 0 rfl ?_
            refine r_iload_n hz dX7_atLeast_27 2 rfl ?_
            refine r_callVi (As := fun _ => [.int p2]) cl7 hz (fun _ _ h => t_X7_isOver _ _ _ _ _ h) cal_X7_isOver dX7_atLeast_28 wm_4_41 wm_4_43 wm_p_36 rfl rfl (Nat.le_of_ble_eq_true rfl) ⟨(Nat.le_of_ble_eq_true rfl), (Nat.le_of_ble_eq_true rfl)⟩ ⟨(Nat.le_of_ble_eq_true rfl), (Nat.le_of_ble_eq_true rfl)⟩ (fun v6 M5 => ?_)
            refine r_if_eq (tgt := 38) hz dX7_atLeast_31 rfl ?_ ?_
            · refine r_aload_n hz dX7_atLeast_38 0 rfl ?_
              refine r_getR (j := 8) cl7 hz dX7_atLeast_39 (by decide) wm_2_112 rfl (fun q7 => ?_)
              refine r_aload_n hz dX7_atLeast_42 0 rfl ?_
              refine r_getR (j := 0) cl7 hz dX7_atLeast_43 (by decide) wm_2_104 rfl (fun q8 => ?_)
              refine r_aload_n hz dX7_atLeast_46 0 rfl ?_
              refine r_getR (j := 1) cl7 hz dX7_atLeast_47 (by decide) wm_2_105 rfl (fun q9 => ?_)
              refine r_iload_n hz dX7_atLeast_50 2 rfl ?_
              refine r_callVv (As := fun _ => [.ref q8, .ref q9, .int p2]) cl4 hz (fun _ _ h => t_X4_foresee _ _ _ _ _ _ _ h) cal_X4_foresee dX7_atLeast_51 wm_3_208 wm_3_209 wm_3_210 rfl rfl (Nat.le_of_ble_eq_true rfl) ⟨(Nat.le_of_ble_eq_true rfl), (Nat.le_of_ble_eq_true rfl)⟩ ⟨(Nat.le_of_ble_eq_true rfl), (Nat.le_of_ble_eq_true rfl)⟩ (fun _ M10 => ?_)
              refine r_aload_n hz dX7_atLeast_54 0 rfl ?_
              refine r_getR (j := 8) cl7 hz dX7_atLeast_55 (by decide) wm_2_112 rfl (fun q11 => ?_)
              refine r_getR (j := 13) cl4 hz dX7_atLeast_58 (by decide) wm_2_15 rfl (fun q12 => ?_)
              refine r_aload_n hz dX7_atLeast_61 0 rfl ?_
              refine r_getR (j := 1) cl7 hz dX7_atLeast_62 (by decide) wm_2_105 rfl (fun q13 => ?_)
              refine r_getI (j := 0) cl5 hz dX7_atLeast_65 (by decide) wm_1_142 rfl ?_
              refine r_iconst (v := 1) hz dX7_atLeast_68 rfl ?_
              refine r_iadd hz dX7_atLeast_69 ?_
              refine r_iald hz dX7_atLeast_70 ?_
              refine r_nmi (fun v14 => ?_)
              refine r_istore (lv' := [(4, .int v14), (0, .ref p0), (1, .int p1), (2, .int p2), (3, .int p3)]) hz dX7_atLeast_71 (by decide) rfl ?_
              refine r_aload_n hz dX7_atLeast_73 1 rfl ?_
              refine r_getR (j := 1) cl7 hz dX7_atLeast_74 (by decide) wm_2_105 rfl (fun q15 => ?_)
              refine r_aload_n hz dX7_atLeast_77 1 rfl ?_
              refine r_getR (j := 0) cl7 hz dX7_atLeast_78 (by decide) wm_2_104 rfl (fun q16 => ?_)
              refine r_iload_n hz dX7_atLeast_81 3 rfl ?_
              refine r_iconst (v := 0) hz dX7_atLeast_82 rfl ?_
              refine r_iload_n hz dX7_atLeast_83 2 rfl ?_
              refine r_callVi (As := fun _ => [.ref q16, .int p2, .int (0 : Int32), .int p1]) cl5 hz (fun _ _ h => t_X5_countHeld _ _ _ _ _ _ _ _ h) cal_X5_countHeld dX7_atLeast_84 wm_3_153 wm_3_154 wm_3_155 rfl rfl (Nat.le_of_ble_eq_true rfl) ⟨(Nat.le_of_ble_eq_true rfl), (Nat.le_of_ble_eq_true rfl)⟩ ⟨(Nat.le_of_ble_eq_true rfl), (Nat.le_of_ble_eq_true rfl)⟩ (fun v18 M17 => ?_)
              refine r_istore (lv' := [(5, .int v18), (4, .int v14), (0, .ref p0), (1, .int p1), (2, .int p2), (3, .int p3)]) hz dX7_atLeast_87 (by decide) rfl ?_
              refine r_lconst (v := 0) hz dX7_atLeast_89 rfl ?_
              refine r_lstore (lv' := [(6, .long (0 : Int64)), (5, .int v18), (4, .int v14), (0, .ref p0), (1, .int p1), (2, .int p2), (3, .int p3)]) hz dX7_atLeast_90 (by decide) rfl ?_
              refine r_iload_n hz dX7_atLeast_92 6 rfl ?_
              refine r_istore (lv' := [(8, .int p3), (6, .long (0 : Int64)), (5, .int v18), (4, .int v14), (0, .ref p0), (1, .int p1), (2, .int p2), (3, .int p3)]) hz dX7_atLeast_93 (by decide) rfl ?_
              refine r_sub [4, 3, 2, 1, 0] rfl ?_
              exact s_X7_atLeast_95 hz hq FU p0 v14 v18 (0 : Int64) p3 M17
            · refine r_ldc2 (v := -1) hz dX7_atLeast_34 wm_4_74 ?_
              exact r_lret hz hq dX7_atLeast_37 (Nat.le_of_ble_eq_true rfl) (Nat.le_of_ble_eq_true rfl)
  exact key x M' h ⟨rfl, rfl⟩
theorem dX7_lasting_0 : decode cX7_lasting 0 = .ok (.aload_n 0, 1) := by decide +kernel
theorem dX7_lasting_1 : decode cX7_lasting 1 = .ok (.iload_n 1, 1) := by decide +kernel
theorem dX7_lasting_2 : decode cX7_lasting 2 = .ok (.invokevirtual 156, 3) := by decide +kernel
theorem dX7_lasting_5 : decode cX7_lasting 5 = .ok (.ifCond .eq 19, 3) := by decide +kernel
theorem dX7_lasting_8 : decode cX7_lasting 8 = .ok (.aload_n 0, 1) := by decide +kernel
theorem dX7_lasting_9 : decode cX7_lasting 9 = .ok (.iload_n 2, 1) := by decide +kernel
theorem dX7_lasting_10 : decode cX7_lasting 10 = .ok (.invokevirtual 116, 3) := by decide +kernel
theorem dX7_lasting_13 : decode cX7_lasting 13 = .ok (.ifCond .eq 11, 3) := by decide +kernel
theorem dX7_lasting_16 : decode cX7_lasting 16 = .ok (.aload_n 0, 1) := by decide +kernel
theorem dX7_lasting_17 : decode cX7_lasting 17 = .ok (.iload_n 2, 1) := by decide +kernel
theorem dX7_lasting_18 : decode cX7_lasting 18 = .ok (.invokevirtual 250, 3) := by decide +kernel
theorem dX7_lasting_21 : decode cX7_lasting 21 = .ok (.ifCond .eq 7, 3) := by decide +kernel
theorem dX7_lasting_24 : decode cX7_lasting 24 = .ok (.ldc2_w 267, 3) := by decide +kernel
theorem dX7_lasting_27 : decode cX7_lasting 27 = .ok (.lreturn, 1) := by decide +kernel
theorem dX7_lasting_28 : decode cX7_lasting 28 = .ok (.aload_n 0, 1) := by decide +kernel
theorem dX7_lasting_29 : decode cX7_lasting 29 = .ok (.getfield 19, 3) := by decide +kernel
theorem dX7_lasting_32 : decode cX7_lasting 32 = .ok (.aload_n 0, 1) := by decide +kernel
theorem dX7_lasting_33 : decode cX7_lasting 33 = .ok (.getfield 10, 3) := by decide +kernel
theorem dX7_lasting_36 : decode cX7_lasting 36 = .ok (.iload_n 2, 1) := by decide +kernel
theorem dX7_lasting_37 : decode cX7_lasting 37 = .ok (.iconst 0, 1) := by decide +kernel
theorem dX7_lasting_38 : decode cX7_lasting 38 = .ok (.iload_n 1, 1) := by decide +kernel
theorem dX7_lasting_39 : decode cX7_lasting 39 = .ok (.invokevirtual 162, 3) := by decide +kernel
theorem dX7_lasting_42 : decode cX7_lasting 42 = .ok (.istore_n 3, 1) := by decide +kernel
theorem dX7_lasting_43 : decode cX7_lasting 43 = .ok (.iload_n 3, 1) := by decide +kernel
theorem dX7_lasting_44 : decode cX7_lasting 44 = .ok (.ifCond .ne 7, 3) := by decide +kernel
theorem dX7_lasting_47 : decode cX7_lasting 47 = .ok (.ldc2_w 267, 3) := by decide +kernel
theorem dX7_lasting_50 : decode cX7_lasting 50 = .ok (.lreturn, 1) := by decide +kernel
theorem dX7_lasting_51 : decode cX7_lasting 51 = .ok (.aload_n 0, 1) := by decide +kernel
theorem dX7_lasting_52 : decode cX7_lasting 52 = .ok (.getfield 52, 3) := by decide +kernel
theorem dX7_lasting_55 : decode cX7_lasting 55 = .ok (.aload_n 0, 1) := by decide +kernel
theorem dX7_lasting_56 : decode cX7_lasting 56 = .ok (.getfield 10, 3) := by decide +kernel
theorem dX7_lasting_59 : decode cX7_lasting 59 = .ok (.aload_n 0, 1) := by decide +kernel
theorem dX7_lasting_60 : decode cX7_lasting 60 = .ok (.getfield 19, 3) := by decide +kernel
theorem dX7_lasting_63 : decode cX7_lasting 63 = .ok (.iload_n 2, 1) := by decide +kernel
theorem dX7_lasting_64 : decode cX7_lasting 64 = .ok (.invokevirtual 208, 3) := by decide +kernel
theorem dX7_lasting_67 : decode cX7_lasting 67 = .ok (.aload_n 0, 1) := by decide +kernel
theorem dX7_lasting_68 : decode cX7_lasting 68 = .ok (.getfield 52, 3) := by decide +kernel
theorem dX7_lasting_71 : decode cX7_lasting 71 = .ok (.getfield 281, 3) := by decide +kernel
theorem dX7_lasting_74 : decode cX7_lasting 74 = .ok (.aload_n 0, 1) := by decide +kernel
theorem dX7_lasting_75 : decode cX7_lasting 75 = .ok (.getfield 52, 3) := by decide +kernel
theorem dX7_lasting_78 : decode cX7_lasting 78 = .ok (.getfield 261, 3) := by decide +kernel
theorem dX7_lasting_81 : decode cX7_lasting 81 = .ok (.aload_n 0, 1) := by decide +kernel
theorem dX7_lasting_82 : decode cX7_lasting 82 = .ok (.getfield 52, 3) := by decide +kernel
theorem dX7_lasting_85 : decode cX7_lasting 85 = .ok (.getfield 272, 3) := by decide +kernel
theorem dX7_lasting_88 : decode cX7_lasting 88 = .ok (.iaload, 1) := by decide +kernel
theorem dX7_lasting_89 : decode cX7_lasting 89 = .ok (.isub, 1) := by decide +kernel
theorem dX7_lasting_90 : decode cX7_lasting 90 = .ok (.istore 4, 2) := by decide +kernel
theorem dX7_lasting_92 : decode cX7_lasting 92 = .ok (.aload_n 0, 1) := by decide +kernel
theorem dX7_lasting_93 : decode cX7_lasting 93 = .ok (.aload_n 0, 1) := by decide +kernel
theorem dX7_lasting_94 : decode cX7_lasting 94 = .ok (.getfield 52, 3) := by decide +kernel
theorem dX7_lasting_97 : decode cX7_lasting 97 = .ok (.getfield 281, 3) := by decide +kernel
theorem dX7_lasting_100 : decode cX7_lasting 100 = .ok (.iload_n 3, 1) := by decide +kernel
theorem dX7_lasting_101 : decode cX7_lasting 101 = .ok (.isub, 1) := by decide +kernel
theorem dX7_lasting_102 : decode cX7_lasting 102 = .ok (.iload 4, 2) := by decide +kernel
theorem dX7_lasting_104 : decode cX7_lasting 104 = .ok (.invokestatic 304, 3) := by decide +kernel
theorem dX7_lasting_107 : decode cX7_lasting 107 = .ok (.aload_n 0, 1) := by decide +kernel
theorem dX7_lasting_108 : decode cX7_lasting 108 = .ok (.getfield 52, 3) := by decide +kernel
theorem dX7_lasting_111 : decode cX7_lasting 111 = .ok (.getfield 281, 3) := by decide +kernel
theorem dX7_lasting_114 : decode cX7_lasting 114 = .ok (.iload 4, 2) := by decide +kernel
theorem dX7_lasting_116 : decode cX7_lasting 116 = .ok (.invokestatic 304, 3) := by decide +kernel
theorem dX7_lasting_119 : decode cX7_lasting 119 = .ok (.invokevirtual 284, 3) := by decide +kernel
theorem dX7_lasting_122 : decode cX7_lasting 122 = .ok (.lreturn, 1) := by decide +kernel
abbrev rX7_lasting : Room := { frames := 4, cells := 0, slots := 0, locals := 92 }
theorem cal_X7_lasting : CalOk yX7_lasting cX7_lasting 5 (some .long) 2 := ⟨wm_4_145, wm_1_1, by decide, by decide, by decide +kernel⟩
def f_X7_lasting (p0 : Nat) (p1 : Int32) (p2 : Int32) (M : Mm) : Option (Int64 × Mm) :=
  ck (gK M p0 = 7) (bd (f_X7_isHolder p0 p1 M) fun v2 M1 =>
  (if v2 = 0 then
    some ((-1 : Int64), M1)
  else
    ck (gK M1 p0 = 7) (bd (f_X7_isLoan p0 p2 M1) fun v4 M3 =>
    (if v4 = 0 then
      some ((-1 : Int64), M3)
    else
      ck (gK M3 p0 = 7) (bd (f_X7_isOver p0 p2 M3) fun v6 M5 =>
      (if v6 = 0 then
        ck (gK M5 p0 = 7) (bR (gR M5 p0 1) fun q7 => ck (gK M5 p0 = 7) (bR (gR M5 p0 0) fun q8 => ck (gK M5 q7 = 5) (bd (f_X5_countHeld q7 q8 p2 (0 : Int32) p1 M5) fun v10 M9 =>
        (if ¬ v10 = 0 then
          ck (gK M9 p0 = 7) (bR (gR M9 p0 8) fun q11 => ck (gK M9 p0 = 7) (bR (gR M9 p0 0) fun q12 => ck (gK M9 p0 = 7) (bR (gR M9 p0 1) fun q13 => ck (gK M9 q11 = 4) (bd (f_X4_foresee q11 q12 q13 p2 M9) fun _ M14 =>
          ck (gK M14 p0 = 7) (bR (gR M14 p0 8) fun q15 => ck (gK M14 q15 = 4) (ck (gK M14 p0 = 7) (bR (gR M14 p0 8) fun q16 => ck (gK M14 q16 = 4) (bR (gR M14 q16 11) fun q17 => ck (gK M14 p0 = 7) (bR (gR M14 p0 8) fun q18 => ck (gK M14 q18 = 4) (ck (gK M14 q17 = 10 ∧ inb (gI M14 q18 9) (gN M14 q17)) (nm ((gI M14 q15 10) - (gI M14 q17 ((gI M14 q18 9)).toNatClampNeg)) fun v19 =>
          ck (gK M14 p0 = 7) (bR (gR M14 p0 8) fun q20 => ck (gK M14 q20 = 4) (bd (f_X7_choose ((gI M14 q20 10) - v10) v19 M14) fun v22 M21 =>
          ck (gK M21 p0 = 7) (bR (gR M21 p0 8) fun q23 => ck (gK M21 q23 = 4) (bd (f_X7_choose (gI M21 q23 10) v19 M21) fun v25 M24 =>
          ck (gK M24 p0 = 7) (bd (f_X7_tell p0 v22 v25 M24) fun v27 M26 =>
          some (v27, M26)))))))))))))))))
        else
          some ((-1 : Int64), M9)))))
      else
        some ((-1 : Int64), M5)))))))
set_option maxRecDepth 20000 in
set_option maxHeartbeats 4000000 in
theorem t_X7_lasting (p0 : Nat) (p1 : Int32) (p2 : Int32) (M : Mm) (x : Int64) (M' : Mm) (h : f_X7_lasting p0 p1 p2 M = some (x, M')) : Ctr yX7_lasting cX7_lasting 5 (some .long) rX7_lasting (fun _ => [.ref p0, .int p1, .int p2]) M (zL x) M' := by
  refine ctr_of (plainFor_of_name (by decide)) (fun _ => Nat.le_of_ble_eq_true rfl) (fun z hz hin hq => ?_)
  have key : Sim z 0 [(0, .ref p0), (1, .int p1), (2, .int p2)] [] M 0 0 (f_X7_lasting p0 p1 p2 M) (fun a b => a = x ∧ b = M') := by
    have hq : Ret z zL (fun a b => a = x ∧ b = M') := fun a b e => by rw [e.1, e.2]; exact hq
    unfold f_X7_lasting
    refine r_aload_n hz dX7_lasting_0 0 rfl ?_
    refine r_iload_n hz dX7_lasting_1 1 rfl ?_
    refine r_callVi (As := fun _ => [.int p1]) cl7 hz (fun _ _ h => t_X7_isHolder _ _ _ _ _ h) cal_X7_isHolder dX7_lasting_2 wm_3_141 wm_3_143 wm_p_24 rfl rfl (Nat.le_of_ble_eq_true rfl) ⟨(Nat.le_of_ble_eq_true rfl), (Nat.le_of_ble_eq_true rfl)⟩ ⟨(Nat.le_of_ble_eq_true rfl), (Nat.le_of_ble_eq_true rfl)⟩ (fun v2 M1 => ?_)
    refine r_if_eq (tgt := 24) hz dX7_lasting_5 rfl ?_ ?_
    · refine r_ldc2 (v := -1) hz dX7_lasting_24 wm_4_74 ?_
      exact r_lret hz hq dX7_lasting_27 (Nat.le_of_ble_eq_true rfl) (Nat.le_of_ble_eq_true rfl)
    · refine r_aload_n hz dX7_lasting_8 0 rfl ?_
      refine r_iload_n hz dX7_lasting_9 2 rfl ?_
      refine r_callVi (As := fun _ => [.int p2]) cl7 hz (fun _ _ h => t_X7_isLoan _ _ _ _ _ h) cal_X7_isLoan dX7_lasting_10 wm_3_149 wm_3_151 wm_p_25 rfl rfl (Nat.le_of_ble_eq_true rfl) ⟨(Nat.le_of_ble_eq_true rfl), (Nat.le_of_ble_eq_true rfl)⟩ ⟨(Nat.le_of_ble_eq_true rfl), (Nat.le_of_ble_eq_true rfl)⟩ (fun v4 M3 => ?_)
      refine r_if_eq (tgt := 24) hz dX7_lasting_13 rfl ?_ ?_
      · refine r_ldc2 (v := -1) hz dX7_lasting_24 wm_4_74 ?_
        exact r_lret hz hq dX7_lasting_27 (Nat.le_of_ble_eq_true rfl) (Nat.le_of_ble_eq_true rfl)
      · refine r_aload_n hz dX7_lasting_16 0 rfl ?_
        refine r_iload_n hz dX7_lasting_17 2 rfl ?_
        refine r_callVi (As := fun _ => [.int p2]) cl7 hz (fun _ _ h => t_X7_isOver _ _ _ _ _ h) cal_X7_isOver dX7_lasting_18 wm_4_41 wm_4_43 wm_p_36 rfl rfl (Nat.le_of_ble_eq_true rfl) ⟨(Nat.le_of_ble_eq_true rfl), (Nat.le_of_ble_eq_true rfl)⟩ ⟨(Nat.le_of_ble_eq_true rfl), (Nat.le_of_ble_eq_true rfl)⟩ (fun v6 M5 => ?_)
        refine r_if_eq (tgt := 28) hz dX7_lasting_21 rfl ?_ ?_
        · refine r_aload_n hz dX7_lasting_28 0 rfl ?_
          refine r_getR (j := 1) cl7 hz dX7_lasting_29 (by decide) wm_2_105 rfl (fun q7 => ?_)
          refine r_aload_n hz dX7_lasting_32 0 rfl ?_
          refine r_getR (j := 0) cl7 hz dX7_lasting_33 (by decide) wm_2_104 rfl (fun q8 => ?_)
          refine r_iload_n hz dX7_lasting_36 2 rfl ?_
          refine r_iconst (v := 0) hz dX7_lasting_37 rfl ?_
          refine r_iload_n hz dX7_lasting_38 1 rfl ?_
          refine r_callVi (As := fun _ => [.ref q8, .int p2, .int (0 : Int32), .int p1]) cl5 hz (fun _ _ h => t_X5_countHeld _ _ _ _ _ _ _ _ h) cal_X5_countHeld dX7_lasting_39 wm_3_153 wm_3_154 wm_3_155 rfl rfl (Nat.le_of_ble_eq_true rfl) ⟨(Nat.le_of_ble_eq_true rfl), (Nat.le_of_ble_eq_true rfl)⟩ ⟨(Nat.le_of_ble_eq_true rfl), (Nat.le_of_ble_eq_true rfl)⟩ (fun v10 M9 => ?_)
          refine r_istore_n (lv' := [(3, .int v10), (0, .ref p0), (1, .int p1), (2, .int p2)]) hz dX7_lasting_42 (by decide) rfl ?_
          refine r_iload_n hz dX7_lasting_43 0 rfl ?_
          refine r_if_ne (tgt := 51) hz dX7_lasting_44 rfl ?_ ?_
          · refine r_aload_n hz dX7_lasting_51 1 rfl ?_
            refine r_getR (j := 8) cl7 hz dX7_lasting_52 (by decide) wm_2_112 rfl (fun q11 => ?_)
            refine r_aload_n hz dX7_lasting_55 1 rfl ?_
            refine r_getR (j := 0) cl7 hz dX7_lasting_56 (by decide) wm_2_104 rfl (fun q12 => ?_)
            refine r_aload_n hz dX7_lasting_59 1 rfl ?_
            refine r_getR (j := 1) cl7 hz dX7_lasting_60 (by decide) wm_2_105 rfl (fun q13 => ?_)
            refine r_iload_n hz dX7_lasting_63 3 rfl ?_
            refine r_callVv (As := fun _ => [.ref q12, .ref q13, .int p2]) cl4 hz (fun _ _ h => t_X4_foresee _ _ _ _ _ _ _ h) cal_X4_foresee dX7_lasting_64 wm_3_208 wm_3_209 wm_3_210 rfl rfl (Nat.le_of_ble_eq_true rfl) ⟨(Nat.le_of_ble_eq_true rfl), (Nat.le_of_ble_eq_true rfl)⟩ ⟨(Nat.le_of_ble_eq_true rfl), (Nat.le_of_ble_eq_true rfl)⟩ (fun _ M14 => ?_)
            refine r_aload_n hz dX7_lasting_67 1 rfl ?_
            refine r_getR (j := 8) cl7 hz dX7_lasting_68 (by decide) wm_2_112 rfl (fun q15 => ?_)
            refine r_getI (j := 10) cl4 hz dX7_lasting_71 (by decide) wm_2_9 rfl ?_
            refine r_aload_n hz dX7_lasting_74 1 rfl ?_
            refine r_getR (j := 8) cl7 hz dX7_lasting_75 (by decide) wm_2_112 rfl (fun q16 => ?_)
            refine r_getR (j := 11) cl4 hz dX7_lasting_78 (by decide) wm_2_11 rfl (fun q17 => ?_)
            refine r_aload_n hz dX7_lasting_81 1 rfl ?_
            refine r_getR (j := 8) cl7 hz dX7_lasting_82 (by decide) wm_2_112 rfl (fun q18 => ?_)
            refine r_getI (j := 9) cl4 hz dX7_lasting_85 (by decide) wm_2_6 rfl ?_
            refine r_iald hz dX7_lasting_88 ?_
            refine r_isub hz dX7_lasting_89 ?_
            refine r_nmi (fun v19 => ?_)
            refine r_istore (lv' := [(4, .int v19), (3, .int v10), (0, .ref p0), (1, .int p1), (2, .int p2)]) hz dX7_lasting_90 (by decide) rfl ?_
            refine r_aload_n hz dX7_lasting_92 2 rfl ?_
            refine r_aload_n hz dX7_lasting_93 2 rfl ?_
            refine r_getR (j := 8) cl7 hz dX7_lasting_94 (by decide) wm_2_112 rfl (fun q20 => ?_)
            refine r_getI (j := 10) cl4 hz dX7_lasting_97 (by decide) wm_2_9 rfl ?_
            refine r_iload_n hz dX7_lasting_100 1 rfl ?_
            refine r_isub hz dX7_lasting_101 ?_
            refine r_iload hz dX7_lasting_102 0 rfl ?_
            refine r_callSl (As := fun _ => [.int ((gI M14 q20 10) - v10), .int v19]) hz (fun _ _ h => t_X7_choose _ _ _ _ _ h) cal_X7_choose dX7_lasting_104 wm_4_138 wm_4_139 rfl rfl (Nat.le_of_ble_eq_true rfl) ⟨(Nat.le_of_ble_eq_true rfl), (Nat.le_of_ble_eq_true rfl)⟩ ⟨(Nat.le_of_ble_eq_true rfl), (Nat.le_of_ble_eq_true rfl)⟩ (fun v22 M21 => ?_)
            refine r_aload_n hz dX7_lasting_107 2 rfl ?_
            refine r_getR (j := 8) cl7 hz dX7_lasting_108 (by decide) wm_2_112 rfl (fun q23 => ?_)
            refine r_getI (j := 10) cl4 hz dX7_lasting_111 (by decide) wm_2_9 rfl ?_
            refine r_iload hz dX7_lasting_114 0 rfl ?_
            refine r_callSl (As := fun _ => [.int (gI M21 q23 10), .int v19]) hz (fun _ _ h => t_X7_choose _ _ _ _ _ h) cal_X7_choose dX7_lasting_116 wm_4_138 wm_4_139 rfl rfl (Nat.le_of_ble_eq_true rfl) ⟨(Nat.le_of_ble_eq_true rfl), (Nat.le_of_ble_eq_true rfl)⟩ ⟨(Nat.le_of_ble_eq_true rfl), (Nat.le_of_ble_eq_true rfl)⟩ (fun v25 M24 => ?_)
            refine r_callVl (As := fun _ => [.long v22, .long v25]) cl7 hz (fun _ _ h => t_X7_tell _ _ _ _ _ _ h) cal_X7_tell dX7_lasting_119 wm_4_87 wm_4_89 wm_p_39 rfl rfl (Nat.le_of_ble_eq_true rfl) ⟨(Nat.le_of_ble_eq_true rfl), (Nat.le_of_ble_eq_true rfl)⟩ ⟨(Nat.le_of_ble_eq_true rfl), (Nat.le_of_ble_eq_true rfl)⟩ (fun v27 M26 => ?_)
            exact r_lret hz hq dX7_lasting_122 (Nat.le_of_ble_eq_true rfl) (Nat.le_of_ble_eq_true rfl)
          · refine r_ldc2 (v := -1) hz dX7_lasting_47 wm_4_74 ?_
            exact r_lret hz hq dX7_lasting_50 (Nat.le_of_ble_eq_true rfl) (Nat.le_of_ble_eq_true rfl)
        · refine r_ldc2 (v := -1) hz dX7_lasting_24 wm_4_74 ?_
          exact r_lret hz hq dX7_lasting_27 (Nat.le_of_ble_eq_true rfl) (Nat.le_of_ble_eq_true rfl)
  exact key x M' h ⟨rfl, rfl⟩
theorem dX7_below_0 : decode cX7_below 0 = .ok (.aload_n 0, 1) := by decide +kernel
theorem dX7_below_1 : decode cX7_below 1 = .ok (.getfield 38, 3) := by decide +kernel
theorem dX7_below_4 : decode cX7_below 4 = .ok (.lreturn, 1) := by decide +kernel
abbrev rX7_below : Room := { frames := 0, cells := 0, slots := 0, locals := 0 }
theorem cal_X7_below : CalOk yX7_below cX7_below 1 (some .long) 0 := ⟨wm_4_149, wm_1_1, by decide, by decide, by decide +kernel⟩
def f_X7_below (p0 : Nat) (M : Mm) : Option (Int64 × Mm) :=
  ck (gK M p0 = 7) (some ((gL M p0 6), M))
set_option maxRecDepth 20000 in
set_option maxHeartbeats 4000000 in
theorem t_X7_below (p0 : Nat) (M : Mm) (x : Int64) (M' : Mm) (h : f_X7_below p0 M = some (x, M')) : Ctr yX7_below cX7_below 1 (some .long) rX7_below (fun _ => [.ref p0]) M (zL x) M' := by
  refine ctr_of (plainFor_of_name (by decide)) (fun _ => Nat.le_of_ble_eq_true rfl) (fun z hz hin hq => ?_)
  have key : Sim z 0 [(0, .ref p0)] [] M 0 0 (f_X7_below p0 M) (fun a b => a = x ∧ b = M') := by
    have hq : Ret z zL (fun a b => a = x ∧ b = M') := fun a b e => by rw [e.1, e.2]; exact hq
    unfold f_X7_below
    refine r_aload_n hz dX7_below_0 0 rfl ?_
    refine r_getL (j := 6) cl7 hz dX7_below_1 (by decide) wm_2_110 rfl ?_
    exact r_lret hz hq dX7_below_4 (Nat.le_of_ble_eq_true rfl) (Nat.le_of_ble_eq_true rfl)
  exact key x M' h ⟨rfl, rfl⟩
theorem dX7_ifPrice_0 : decode cX7_ifPrice 0 = .ok (.aload_n 0, 1) := by decide +kernel
theorem dX7_ifPrice_1 : decode cX7_ifPrice 1 = .ok (.iload_n 1, 1) := by decide +kernel
theorem dX7_ifPrice_2 : decode cX7_ifPrice 2 = .ok (.iload_n 2, 1) := by decide +kernel
theorem dX7_ifPrice_3 : decode cX7_ifPrice 3 = .ok (.invokevirtual 253, 3) := by decide +kernel
theorem dX7_ifPrice_6 : decode cX7_ifPrice 6 = .ok (.ifCond .eq 31, 3) := by decide +kernel
theorem dX7_ifPrice_9 : decode cX7_ifPrice 9 = .ok (.iload_n 3, 1) := by decide +kernel
theorem dX7_ifPrice_10 : decode cX7_ifPrice 10 = .ok (.iconst 1, 1) := by decide +kernel
theorem dX7_ifPrice_11 : decode cX7_ifPrice 11 = .ok (.if_icmp .lt 26, 3) := by decide +kernel
theorem dX7_ifPrice_14 : decode cX7_ifPrice 14 = .ok (.iload_n 3, 1) := by decide +kernel
theorem dX7_ifPrice_15 : decode cX7_ifPrice 15 = .ok (.sipush 999, 3) := by decide +kernel
theorem dX7_ifPrice_18 : decode cX7_ifPrice 18 = .ok (.if_icmp .gt 19, 3) := by decide +kernel
theorem dX7_ifPrice_21 : decode cX7_ifPrice 21 = .ok (.iload 4, 2) := by decide +kernel
theorem dX7_ifPrice_23 : decode cX7_ifPrice 23 = .ok (.iload_n 2, 1) := by decide +kernel
theorem dX7_ifPrice_24 : decode cX7_ifPrice 24 = .ok (.if_icmp .lt 13, 3) := by decide +kernel
theorem dX7_ifPrice_27 : decode cX7_ifPrice 27 = .ok (.aload_n 0, 1) := by decide +kernel
theorem dX7_ifPrice_28 : decode cX7_ifPrice 28 = .ok (.iload_n 1, 1) := by decide +kernel
theorem dX7_ifPrice_29 : decode cX7_ifPrice 29 = .ok (.iload 4, 2) := by decide +kernel
theorem dX7_ifPrice_31 : decode cX7_ifPrice 31 = .ok (.invokevirtual 253, 3) := by decide +kernel
theorem dX7_ifPrice_34 : decode cX7_ifPrice 34 = .ok (.ifCond .ne 5, 3) := by decide +kernel
theorem dX7_ifPrice_37 : decode cX7_ifPrice 37 = .ok (.iconst (-1), 1) := by decide +kernel
theorem dX7_ifPrice_38 : decode cX7_ifPrice 38 = .ok (.ireturn, 1) := by decide +kernel
theorem dX7_ifPrice_39 : decode cX7_ifPrice 39 = .ok (.aload_n 0, 1) := by decide +kernel
theorem dX7_ifPrice_40 : decode cX7_ifPrice 40 = .ok (.getfield 52, 3) := by decide +kernel
theorem dX7_ifPrice_43 : decode cX7_ifPrice 43 = .ok (.aload_n 0, 1) := by decide +kernel
theorem dX7_ifPrice_44 : decode cX7_ifPrice 44 = .ok (.getfield 10, 3) := by decide +kernel
theorem dX7_ifPrice_47 : decode cX7_ifPrice 47 = .ok (.aload_n 0, 1) := by decide +kernel
theorem dX7_ifPrice_48 : decode cX7_ifPrice 48 = .ok (.getfield 19, 3) := by decide +kernel
theorem dX7_ifPrice_51 : decode cX7_ifPrice 51 = .ok (.iload_n 1, 1) := by decide +kernel
theorem dX7_ifPrice_52 : decode cX7_ifPrice 52 = .ok (.invokevirtual 308, 3) := by decide +kernel
theorem dX7_ifPrice_55 : decode cX7_ifPrice 55 = .ok (.aload_n 0, 1) := by decide +kernel
theorem dX7_ifPrice_56 : decode cX7_ifPrice 56 = .ok (.getfield 52, 3) := by decide +kernel
theorem dX7_ifPrice_59 : decode cX7_ifPrice 59 = .ok (.iconst 0, 1) := by decide +kernel
theorem dX7_ifPrice_60 : decode cX7_ifPrice 60 = .ok (.iload_n 2, 1) := by decide +kernel
theorem dX7_ifPrice_61 : decode cX7_ifPrice 61 = .ok (.iload_n 3, 1) := by decide +kernel
theorem dX7_ifPrice_62 : decode cX7_ifPrice 62 = .ok (.invokevirtual 311, 3) := by decide +kernel
theorem dX7_ifPrice_65 : decode cX7_ifPrice 65 = .ok (.aload_n 0, 1) := by decide +kernel
theorem dX7_ifPrice_66 : decode cX7_ifPrice 66 = .ok (.getfield 52, 3) := by decide +kernel
theorem dX7_ifPrice_69 : decode cX7_ifPrice 69 = .ok (.iload 4, 2) := by decide +kernel
theorem dX7_ifPrice_71 : decode cX7_ifPrice 71 = .ok (.invokevirtual 298, 3) := by decide +kernel
theorem dX7_ifPrice_74 : decode cX7_ifPrice 74 = .ok (.ireturn, 1) := by decide +kernel
abbrev rX7_ifPrice : Room := { frames := 3, cells := 0, slots := 0, locals := 69 }
theorem cal_X7_ifPrice : CalOk yX7_ifPrice cX7_ifPrice 5 (some .int) 4 := ⟨wm_4_153, wm_1_1, by decide, by decide, by decide +kernel⟩
def f_X7_ifPrice (p0 : Nat) (p1 : Int32) (p2 : Int32) (p3 : Int32) (p4 : Int32) (M : Mm) : Option (Int32 × Mm) :=
  ck (gK M p0 = 7) (bd (f_X7_isToCome p0 p1 p2 M) fun v2 M1 =>
  (if v2 = 0 then
    some ((-1 : Int32), M1)
  else
    (if p3 < (1 : Int32) then
      some ((-1 : Int32), M1)
    else
      (if (999 : Int32) < p3 then
        some ((-1 : Int32), M1)
      else
        (if p4 < p2 then
          some ((-1 : Int32), M1)
        else
          ck (gK M1 p0 = 7) (bd (f_X7_isToCome p0 p1 p4 M1) fun v4 M3 =>
          (if ¬ v4 = 0 then
            ck (gK M3 p0 = 7) (bR (gR M3 p0 8) fun q5 => ck (gK M3 p0 = 7) (bR (gR M3 p0 0) fun q6 => ck (gK M3 p0 = 7) (bR (gR M3 p0 1) fun q7 => ck (gK M3 q5 = 4) (bd (f_X4_open q5 q6 q7 p1 M3) fun _ M8 =>
            ck (gK M8 p0 = 7) (bR (gR M8 p0 8) fun q9 => ck (gK M8 q9 = 4) (bd (f_X4_run q9 (0 : Int32) p2 p3 M8) fun _ M10 =>
            ck (gK M10 p0 = 7) (bR (gR M10 p0 8) fun q11 => ck (gK M10 q11 = 4) (bd (f_X4_leftBehind q11 p4 M10) fun v13 M12 =>
            some (v13, M12)))))))))
          else
            some ((-1 : Int32), M3))))))))
set_option maxRecDepth 20000 in
set_option maxHeartbeats 4000000 in
theorem t_X7_ifPrice (p0 : Nat) (p1 : Int32) (p2 : Int32) (p3 : Int32) (p4 : Int32) (M : Mm) (x : Int32) (M' : Mm) (h : f_X7_ifPrice p0 p1 p2 p3 p4 M = some (x, M')) : Ctr yX7_ifPrice cX7_ifPrice 5 (some .int) rX7_ifPrice (fun _ => [.ref p0, .int p1, .int p2, .int p3, .int p4]) M (zI x) M' := by
  refine ctr_of (plainFor_of_name (by decide)) (fun _ => Nat.le_of_ble_eq_true rfl) (fun z hz hin hq => ?_)
  have key : Sim z 0 [(0, .ref p0), (1, .int p1), (2, .int p2), (3, .int p3), (4, .int p4)] [] M 0 0 (f_X7_ifPrice p0 p1 p2 p3 p4 M) (fun a b => a = x ∧ b = M') := by
    have hq : Ret z zI (fun a b => a = x ∧ b = M') := fun a b e => by rw [e.1, e.2]; exact hq
    unfold f_X7_ifPrice
    refine r_aload_n hz dX7_ifPrice_0 0 rfl ?_
    refine r_iload_n hz dX7_ifPrice_1 1 rfl ?_
    refine r_iload_n hz dX7_ifPrice_2 2 rfl ?_
    refine r_callVi (As := fun _ => [.int p1, .int p2]) cl7 hz (fun _ _ h => t_X7_isToCome _ _ _ _ _ _ h) cal_X7_isToCome dX7_ifPrice_3 wm_4_49 wm_4_51 wm_p_37 rfl rfl (Nat.le_of_ble_eq_true rfl) ⟨(Nat.le_of_ble_eq_true rfl), (Nat.le_of_ble_eq_true rfl)⟩ ⟨(Nat.le_of_ble_eq_true rfl), (Nat.le_of_ble_eq_true rfl)⟩ (fun v2 M1 => ?_)
    refine r_if_eq (tgt := 37) hz dX7_ifPrice_6 rfl ?_ ?_
    · refine r_iconst (v := -1) hz dX7_ifPrice_37 rfl ?_
      exact r_iret hz hq dX7_ifPrice_38 (Nat.le_of_ble_eq_true rfl) (Nat.le_of_ble_eq_true rfl)
    · refine r_iload_n hz dX7_ifPrice_9 3 rfl ?_
      refine r_iconst (v := 1) hz dX7_ifPrice_10 rfl ?_
      refine r_icmp_lt (tgt := 37) hz dX7_ifPrice_11 rfl ?_ ?_
      · refine r_iconst (v := -1) hz dX7_ifPrice_37 rfl ?_
        exact r_iret hz hq dX7_ifPrice_38 (Nat.le_of_ble_eq_true rfl) (Nat.le_of_ble_eq_true rfl)
      · refine r_iload_n hz dX7_ifPrice_14 3 rfl ?_
        refine r_sipush (v := 999) hz dX7_ifPrice_15 rfl ?_
        refine r_icmp_gt (tgt := 37) hz dX7_ifPrice_18 rfl ?_ ?_
        · refine r_iconst (v := -1) hz dX7_ifPrice_37 rfl ?_
          exact r_iret hz hq dX7_ifPrice_38 (Nat.le_of_ble_eq_true rfl) (Nat.le_of_ble_eq_true rfl)
        · refine r_iload hz dX7_ifPrice_21 4 rfl ?_
          refine r_iload_n hz dX7_ifPrice_23 2 rfl ?_
          refine r_icmp_lt (tgt := 37) hz dX7_ifPrice_24 rfl ?_ ?_
          · refine r_iconst (v := -1) hz dX7_ifPrice_37 rfl ?_
            exact r_iret hz hq dX7_ifPrice_38 (Nat.le_of_ble_eq_true rfl) (Nat.le_of_ble_eq_true rfl)
          · refine r_aload_n hz dX7_ifPrice_27 0 rfl ?_
            refine r_iload_n hz dX7_ifPrice_28 1 rfl ?_
            refine r_iload hz dX7_ifPrice_29 4 rfl ?_
            refine r_callVi (As := fun _ => [.int p1, .int p4]) cl7 hz (fun _ _ h => t_X7_isToCome _ _ _ _ _ _ h) cal_X7_isToCome dX7_ifPrice_31 wm_4_49 wm_4_51 wm_p_37 rfl rfl (Nat.le_of_ble_eq_true rfl) ⟨(Nat.le_of_ble_eq_true rfl), (Nat.le_of_ble_eq_true rfl)⟩ ⟨(Nat.le_of_ble_eq_true rfl), (Nat.le_of_ble_eq_true rfl)⟩ (fun v4 M3 => ?_)
            refine r_if_ne (tgt := 39) hz dX7_ifPrice_34 rfl ?_ ?_
            · refine r_aload_n hz dX7_ifPrice_39 0 rfl ?_
              refine r_getR (j := 8) cl7 hz dX7_ifPrice_40 (by decide) wm_2_112 rfl (fun q5 => ?_)
              refine r_aload_n hz dX7_ifPrice_43 0 rfl ?_
              refine r_getR (j := 0) cl7 hz dX7_ifPrice_44 (by decide) wm_2_104 rfl (fun q6 => ?_)
              refine r_aload_n hz dX7_ifPrice_47 0 rfl ?_
              refine r_getR (j := 1) cl7 hz dX7_ifPrice_48 (by decide) wm_2_105 rfl (fun q7 => ?_)
              refine r_iload_n hz dX7_ifPrice_51 1 rfl ?_
              refine r_callVv (As := fun _ => [.ref q6, .ref q7, .int p1]) cl4 hz (fun _ _ h => t_X4_open _ _ _ _ _ _ _ h) cal_X4_open dX7_ifPrice_52 wm_4_154 wm_3_213 wm_3_214 rfl rfl (Nat.le_of_ble_eq_true rfl) ⟨(Nat.le_of_ble_eq_true rfl), (Nat.le_of_ble_eq_true rfl)⟩ ⟨(Nat.le_of_ble_eq_true rfl), (Nat.le_of_ble_eq_true rfl)⟩ (fun _ M8 => ?_)
              refine r_aload_n hz dX7_ifPrice_55 0 rfl ?_
              refine r_getR (j := 8) cl7 hz dX7_ifPrice_56 (by decide) wm_2_112 rfl (fun q9 => ?_)
              refine r_iconst (v := 0) hz dX7_ifPrice_59 rfl ?_
              refine r_iload_n hz dX7_ifPrice_60 2 rfl ?_
              refine r_iload_n hz dX7_ifPrice_61 3 rfl ?_
              refine r_callVv (As := fun _ => [.int (0 : Int32), .int p2, .int p3]) cl4 hz (fun _ _ h => t_X4_run _ _ _ _ _ _ _ h) cal_X4_run dX7_ifPrice_62 wm_4_155 wm_3_221 wm_3_222 rfl rfl (Nat.le_of_ble_eq_true rfl) ⟨(Nat.le_of_ble_eq_true rfl), (Nat.le_of_ble_eq_true rfl)⟩ ⟨(Nat.le_of_ble_eq_true rfl), (Nat.le_of_ble_eq_true rfl)⟩ (fun _ M10 => ?_)
              refine r_aload_n hz dX7_ifPrice_65 0 rfl ?_
              refine r_getR (j := 8) cl7 hz dX7_ifPrice_66 (by decide) wm_2_112 rfl (fun q11 => ?_)
              refine r_iload hz dX7_ifPrice_69 4 rfl ?_
              refine r_callVi (As := fun _ => [.int p4]) cl4 hz (fun _ _ h => t_X4_leftBehind _ _ _ _ _ h) cal_X4_leftBehind dX7_ifPrice_71 wm_4_122 wm_4_123 wm_4_124 rfl rfl (Nat.le_of_ble_eq_true rfl) ⟨(Nat.le_of_ble_eq_true rfl), (Nat.le_of_ble_eq_true rfl)⟩ ⟨(Nat.le_of_ble_eq_true rfl), (Nat.le_of_ble_eq_true rfl)⟩ (fun v13 M12 => ?_)
              exact r_iret hz hq dX7_ifPrice_74 (Nat.le_of_ble_eq_true rfl) (Nat.le_of_ble_eq_true rfl)
            · refine r_iconst (v := -1) hz dX7_ifPrice_37 rfl ?_
              exact r_iret hz hq dX7_ifPrice_38 (Nat.le_of_ble_eq_true rfl) (Nat.le_of_ble_eq_true rfl)
  exact key x M' h ⟨rfl, rfl⟩
theorem dX7_needs_0 : decode cX7_needs 0 = .ok (.aload_n 0, 1) := by decide +kernel
theorem dX7_needs_1 : decode cX7_needs 1 = .ok (.iload_n 1, 1) := by decide +kernel
theorem dX7_needs_2 : decode cX7_needs 2 = .ok (.iload_n 2, 1) := by decide +kernel
theorem dX7_needs_3 : decode cX7_needs 3 = .ok (.invokevirtual 253, 3) := by decide +kernel
theorem dX7_needs_6 : decode cX7_needs 6 = .ok (.ifCond .eq 16, 3) := by decide +kernel
theorem dX7_needs_9 : decode cX7_needs 9 = .ok (.aload_n 0, 1) := by decide +kernel
theorem dX7_needs_10 : decode cX7_needs 10 = .ok (.getfield 10, 3) := by decide +kernel
theorem dX7_needs_13 : decode cX7_needs 13 = .ok (.getfield 139, 3) := by decide +kernel
theorem dX7_needs_16 : decode cX7_needs 16 = .ok (.iload_n 1, 1) := by decide +kernel
theorem dX7_needs_17 : decode cX7_needs 17 = .ok (.iaload, 1) := by decide +kernel
theorem dX7_needs_18 : decode cX7_needs 18 = .ok (.iconst 1, 1) := by decide +kernel
theorem dX7_needs_19 : decode cX7_needs 19 = .ok (.if_icmp .eq 5, 3) := by decide +kernel
theorem dX7_needs_22 : decode cX7_needs 22 = .ok (.iconst (-1), 1) := by decide +kernel
theorem dX7_needs_23 : decode cX7_needs 23 = .ok (.ireturn, 1) := by decide +kernel
theorem dX7_needs_24 : decode cX7_needs 24 = .ok (.aload_n 0, 1) := by decide +kernel
theorem dX7_needs_25 : decode cX7_needs 25 = .ok (.getfield 52, 3) := by decide +kernel
theorem dX7_needs_28 : decode cX7_needs 28 = .ok (.aload_n 0, 1) := by decide +kernel
theorem dX7_needs_29 : decode cX7_needs 29 = .ok (.getfield 10, 3) := by decide +kernel
theorem dX7_needs_32 : decode cX7_needs 32 = .ok (.aload_n 0, 1) := by decide +kernel
theorem dX7_needs_33 : decode cX7_needs 33 = .ok (.getfield 19, 3) := by decide +kernel
theorem dX7_needs_36 : decode cX7_needs 36 = .ok (.iload_n 1, 1) := by decide +kernel
theorem dX7_needs_37 : decode cX7_needs 37 = .ok (.invokevirtual 308, 3) := by decide +kernel
theorem dX7_needs_40 : decode cX7_needs 40 = .ok (.iconst 0, 1) := by decide +kernel
theorem dX7_needs_41 : decode cX7_needs 41 = .ok (.istore_n 3, 1) := by decide +kernel
theorem dX7_needs_42 : decode cX7_needs 42 = .ok (.iload_n 3, 1) := by decide +kernel
theorem dX7_needs_43 : decode cX7_needs 43 = .ok (.ldc 249, 2) := by decide +kernel
theorem dX7_needs_45 : decode cX7_needs 45 = .ok (.if_icmp .gt 44, 3) := by decide +kernel
theorem dX7_needs_48 : decode cX7_needs 48 = .ok (.aload_n 0, 1) := by decide +kernel
theorem dX7_needs_49 : decode cX7_needs 49 = .ok (.getfield 52, 3) := by decide +kernel
theorem dX7_needs_52 : decode cX7_needs 52 = .ok (.iload_n 3, 1) := by decide +kernel
theorem dX7_needs_53 : decode cX7_needs 53 = .ok (.iconst 0, 1) := by decide +kernel
theorem dX7_needs_54 : decode cX7_needs 54 = .ok (.iconst 0, 1) := by decide +kernel
theorem dX7_needs_55 : decode cX7_needs 55 = .ok (.invokevirtual 311, 3) := by decide +kernel
theorem dX7_needs_58 : decode cX7_needs 58 = .ok (.aload_n 0, 1) := by decide +kernel
theorem dX7_needs_59 : decode cX7_needs 59 = .ok (.getfield 52, 3) := by decide +kernel
theorem dX7_needs_62 : decode cX7_needs 62 = .ok (.iload_n 2, 1) := by decide +kernel
theorem dX7_needs_63 : decode cX7_needs 63 = .ok (.invokevirtual 298, 3) := by decide +kernel
theorem dX7_needs_66 : decode cX7_needs 66 = .ok (.ifCond .ne 5, 3) := by decide +kernel
theorem dX7_needs_69 : decode cX7_needs 69 = .ok (.iload_n 3, 1) := by decide +kernel
theorem dX7_needs_70 : decode cX7_needs 70 = .ok (.ireturn, 1) := by decide +kernel
theorem dX7_needs_71 : decode cX7_needs 71 = .ok (.iload_n 3, 1) := by decide +kernel
theorem dX7_needs_72 : decode cX7_needs 72 = .ok (.iconst 1, 1) := by decide +kernel
theorem dX7_needs_73 : decode cX7_needs 73 = .ok (.aload_n 0, 1) := by decide +kernel
theorem dX7_needs_74 : decode cX7_needs 74 = .ok (.getfield 52, 3) := by decide +kernel
theorem dX7_needs_77 : decode cX7_needs 77 = .ok (.iload_n 2, 1) := by decide +kernel
theorem dX7_needs_78 : decode cX7_needs 78 = .ok (.invokevirtual 315, 3) := by decide +kernel
theorem dX7_needs_81 : decode cX7_needs 81 = .ok (.invokestatic 318, 3) := by decide +kernel
theorem dX7_needs_84 : decode cX7_needs 84 = .ok (.iadd, 1) := by decide +kernel
theorem dX7_needs_85 : decode cX7_needs 85 = .ok (.istore_n 3, 1) := by decide +kernel
theorem dX7_needs_86 : decode cX7_needs 86 = .ok (.goto (-44), 3) := by decide +kernel
theorem dX7_needs_89 : decode cX7_needs 89 = .ok (.bipush (-2), 2) := by decide +kernel
theorem dX7_needs_91 : decode cX7_needs 91 = .ok (.ireturn, 1) := by decide +kernel
abbrev rX7_needs : Room := { frames := 3, cells := 0, slots := 0, locals := 69 }
theorem cal_X7_needs : CalOk yX7_needs cX7_needs 4 (some .int) 2 := ⟨wm_4_159, wm_1_1, by decide, by decide, by decide +kernel⟩
def f_X7_needs_42 : Nat → Nat → Int32 → Int32 → Mm → Option (Int32 × Mm)
  | 0, _, _, _, _ => none
  | n + 1, x0, x2, x3, M =>
    (if (99999 : Int32) < x3 then
      some ((-2 : Int32), M)
    else
      ck (gK M x0 = 7) (bR (gR M x0 8) fun q1 => ck (gK M q1 = 4) (bd (f_X4_run q1 x3 (0 : Int32) (0 : Int32) M) fun _ M2 =>
      ck (gK M2 x0 = 7) (bR (gR M2 x0 8) fun q3 => ck (gK M2 q3 = 4) (bd (f_X4_leftBehind q3 x2 M2) fun v5 M4 =>
      (if ¬ v5 = 0 then
        ck (gK M4 x0 = 7) (bR (gR M4 x0 8) fun q6 => ck (gK M4 q6 = 4) (bd (f_X4_untilOtherwise q6 x2 M4) fun v8 M7 =>
        bd (f_J9_max_7cf53 (1 : Int32) v8 M7) fun v10 M9 =>
        nm (x3 + v10) fun v11 =>
        f_X7_needs_42 n x0 x2 v11 M9))
      else
        some (x3, M4)))))))
set_option maxRecDepth 20000 in
set_option maxHeartbeats 4000000 in
theorem s_X7_needs_42 {z : Zt} {K : Int32 → Mm → Prop} (hz : Good z RX7 cX7_needs 4 rX7_needs (some .int)) (hq : Ret z zI K) : ∀ (n : Nat) (x0 : Nat) (x2 : Int32) (x3 : Int32) (M : Mm), Sim z 42 [(0, .ref x0), (2, .int x2), (3, .int x3)] [] M 0 0 (f_X7_needs_42 n x0 x2 x3 M) K := by
  intro n
  induction n with
  | zero => exact fun _ _ _ _ => r_none
  | succ n ih =>
    intro x0 x2 x3 M
    unfold f_X7_needs_42
    refine r_iload_n hz dX7_needs_42 2 rfl ?_
    refine r_ldc (v := 99999) hz dX7_needs_43 wm_4_36 ?_
    refine r_icmp_gt (tgt := 89) hz dX7_needs_45 rfl ?_ ?_
    · refine r_bipush (v := -2) hz dX7_needs_89 rfl ?_
      exact r_iret hz hq dX7_needs_91 (Nat.le_of_ble_eq_true rfl) (Nat.le_of_ble_eq_true rfl)
    · refine r_aload_n hz dX7_needs_48 0 rfl ?_
      refine r_getR (j := 8) cl7 hz dX7_needs_49 (by decide) wm_2_112 rfl (fun q1 => ?_)
      refine r_iload_n hz dX7_needs_52 2 rfl ?_
      refine r_iconst (v := 0) hz dX7_needs_53 rfl ?_
      refine r_iconst (v := 0) hz dX7_needs_54 rfl ?_
      refine r_callVv (As := fun _ => [.int x3, .int (0 : Int32), .int (0 : Int32)]) cl4 hz (fun _ _ h => t_X4_run _ _ _ _ _ _ _ h) cal_X4_run dX7_needs_55 wm_4_155 wm_3_221 wm_3_222 rfl rfl (Nat.le_of_ble_eq_true rfl) ⟨(Nat.le_of_ble_eq_true rfl), (Nat.le_of_ble_eq_true rfl)⟩ ⟨(Nat.le_of_ble_eq_true rfl), (Nat.le_of_ble_eq_true rfl)⟩ (fun _ M2 => ?_)
      refine r_aload_n hz dX7_needs_58 0 rfl ?_
      refine r_getR (j := 8) cl7 hz dX7_needs_59 (by decide) wm_2_112 rfl (fun q3 => ?_)
      refine r_iload_n hz dX7_needs_62 1 rfl ?_
      refine r_callVi (As := fun _ => [.int x2]) cl4 hz (fun _ _ h => t_X4_leftBehind _ _ _ _ _ h) cal_X4_leftBehind dX7_needs_63 wm_4_122 wm_4_123 wm_4_124 rfl rfl (Nat.le_of_ble_eq_true rfl) ⟨(Nat.le_of_ble_eq_true rfl), (Nat.le_of_ble_eq_true rfl)⟩ ⟨(Nat.le_of_ble_eq_true rfl), (Nat.le_of_ble_eq_true rfl)⟩ (fun v5 M4 => ?_)
      refine r_if_ne (tgt := 71) hz dX7_needs_66 rfl ?_ ?_
      · refine r_iload_n hz dX7_needs_71 2 rfl ?_
        refine r_iconst (v := 1) hz dX7_needs_72 rfl ?_
        refine r_aload_n hz dX7_needs_73 0 rfl ?_
        refine r_getR (j := 8) cl7 hz dX7_needs_74 (by decide) wm_2_112 rfl (fun q6 => ?_)
        refine r_iload_n hz dX7_needs_77 1 rfl ?_
        refine r_callVi (As := fun _ => [.int x2]) cl4 hz (fun _ _ h => t_X4_untilOtherwise _ _ _ _ _ h) cal_X4_untilOtherwise dX7_needs_78 wm_4_160 wm_4_161 wm_4_162 rfl rfl (Nat.le_of_ble_eq_true rfl) ⟨(Nat.le_of_ble_eq_true rfl), (Nat.le_of_ble_eq_true rfl)⟩ ⟨(Nat.le_of_ble_eq_true rfl), (Nat.le_of_ble_eq_true rfl)⟩ (fun v8 M7 => ?_)
        refine r_callSi (As := fun _ => [.int (1 : Int32), .int v8]) hz (fun _ _ h => t_J9_max_7cf53 _ _ _ _ _ h) cal_J9_max_7cf53 dX7_needs_81 wm_4_165 wm_3_233 rfl rfl (Nat.le_of_ble_eq_true rfl) ⟨(Nat.le_of_ble_eq_true rfl), (Nat.le_of_ble_eq_true rfl)⟩ ⟨(Nat.le_of_ble_eq_true rfl), (Nat.le_of_ble_eq_true rfl)⟩ (fun v10 M9 => ?_)
        refine r_iadd hz dX7_needs_84 ?_
        refine r_nmi (fun v11 => ?_)
        refine r_istore_n (lv' := [(3, .int v11), (0, .ref x0), (2, .int x2)]) hz dX7_needs_85 (by decide) rfl ?_
        refine r_goto (tgt := 42) hz dX7_needs_86 rfl ?_
        refine r_sub [1, 2, 0] rfl ?_
        exact ih x0 x2 v11 M9
      · refine r_iload_n hz dX7_needs_69 2 rfl ?_
        exact r_iret hz hq dX7_needs_70 (Nat.le_of_ble_eq_true rfl) (Nat.le_of_ble_eq_true rfl)
def f_X7_needs (p0 : Nat) (p1 : Int32) (p2 : Int32) (M : Mm) : Option (Int32 × Mm) :=
  ck (gK M p0 = 7) (bd (f_X7_isToCome p0 p1 p2 M) fun v2 M1 =>
  (if v2 = 0 then
    some ((-1 : Int32), M1)
  else
    ck (gK M1 p0 = 7) (bR (gR M1 p0 0) fun q3 => ck (gK M1 q3 = 6) (bR (gR M1 q3 10) fun q4 => ck (gK M1 q4 = 10 ∧ inb p1 (gN M1 q4)) ((if (gI M1 q4 (p1).toNatClampNeg) = (1 : Int32) then
      ck (gK M1 p0 = 7) (bR (gR M1 p0 8) fun q5 => ck (gK M1 p0 = 7) (bR (gR M1 p0 0) fun q6 => ck (gK M1 p0 = 7) (bR (gR M1 p0 1) fun q7 => ck (gK M1 q5 = 4) (bd (f_X4_open q5 q6 q7 p1 M1) fun _ M8 =>
      f_X7_needs_42 FU p0 p2 (0 : Int32) M8))))
    else
      some ((-1 : Int32), M1)))))))
set_option maxRecDepth 20000 in
set_option maxHeartbeats 4000000 in
theorem t_X7_needs (p0 : Nat) (p1 : Int32) (p2 : Int32) (M : Mm) (x : Int32) (M' : Mm) (h : f_X7_needs p0 p1 p2 M = some (x, M')) : Ctr yX7_needs cX7_needs 4 (some .int) rX7_needs (fun _ => [.ref p0, .int p1, .int p2]) M (zI x) M' := by
  refine ctr_of (plainFor_of_name (by decide)) (fun _ => Nat.le_of_ble_eq_true rfl) (fun z hz hin hq => ?_)
  have key : Sim z 0 [(0, .ref p0), (1, .int p1), (2, .int p2)] [] M 0 0 (f_X7_needs p0 p1 p2 M) (fun a b => a = x ∧ b = M') := by
    have hq : Ret z zI (fun a b => a = x ∧ b = M') := fun a b e => by rw [e.1, e.2]; exact hq
    unfold f_X7_needs
    refine r_aload_n hz dX7_needs_0 0 rfl ?_
    refine r_iload_n hz dX7_needs_1 1 rfl ?_
    refine r_iload_n hz dX7_needs_2 2 rfl ?_
    refine r_callVi (As := fun _ => [.int p1, .int p2]) cl7 hz (fun _ _ h => t_X7_isToCome _ _ _ _ _ _ h) cal_X7_isToCome dX7_needs_3 wm_4_49 wm_4_51 wm_p_37 rfl rfl (Nat.le_of_ble_eq_true rfl) ⟨(Nat.le_of_ble_eq_true rfl), (Nat.le_of_ble_eq_true rfl)⟩ ⟨(Nat.le_of_ble_eq_true rfl), (Nat.le_of_ble_eq_true rfl)⟩ (fun v2 M1 => ?_)
    refine r_if_eq (tgt := 22) hz dX7_needs_6 rfl ?_ ?_
    · refine r_iconst (v := -1) hz dX7_needs_22 rfl ?_
      exact r_iret hz hq dX7_needs_23 (Nat.le_of_ble_eq_true rfl) (Nat.le_of_ble_eq_true rfl)
    · refine r_aload_n hz dX7_needs_9 0 rfl ?_
      refine r_getR (j := 0) cl7 hz dX7_needs_10 (by decide) wm_2_104 rfl (fun q3 => ?_)
      refine r_getR (j := 10) cl6 hz dX7_needs_13 (by decide) wm_1_75 rfl (fun q4 => ?_)
      refine r_iload_n hz dX7_needs_16 1 rfl ?_
      refine r_iald hz dX7_needs_17 ?_
      refine r_iconst (v := 1) hz dX7_needs_18 rfl ?_
      refine r_icmp_eq (tgt := 24) hz dX7_needs_19 rfl ?_ ?_
      · refine r_aload_n hz dX7_needs_24 0 rfl ?_
        refine r_getR (j := 8) cl7 hz dX7_needs_25 (by decide) wm_2_112 rfl (fun q5 => ?_)
        refine r_aload_n hz dX7_needs_28 0 rfl ?_
        refine r_getR (j := 0) cl7 hz dX7_needs_29 (by decide) wm_2_104 rfl (fun q6 => ?_)
        refine r_aload_n hz dX7_needs_32 0 rfl ?_
        refine r_getR (j := 1) cl7 hz dX7_needs_33 (by decide) wm_2_105 rfl (fun q7 => ?_)
        refine r_iload_n hz dX7_needs_36 1 rfl ?_
        refine r_callVv (As := fun _ => [.ref q6, .ref q7, .int p1]) cl4 hz (fun _ _ h => t_X4_open _ _ _ _ _ _ _ h) cal_X4_open dX7_needs_37 wm_4_154 wm_3_213 wm_3_214 rfl rfl (Nat.le_of_ble_eq_true rfl) ⟨(Nat.le_of_ble_eq_true rfl), (Nat.le_of_ble_eq_true rfl)⟩ ⟨(Nat.le_of_ble_eq_true rfl), (Nat.le_of_ble_eq_true rfl)⟩ (fun _ M8 => ?_)
        refine r_iconst (v := 0) hz dX7_needs_40 rfl ?_
        refine r_istore_n (lv' := [(3, .int (0 : Int32)), (0, .ref p0), (1, .int p1), (2, .int p2)]) hz dX7_needs_41 (by decide) rfl ?_
        refine r_sub [1, 3, 0] rfl ?_
        exact s_X7_needs_42 hz hq FU p0 p2 (0 : Int32) M8
      · refine r_iconst (v := -1) hz dX7_needs_22 rfl ?_
        exact r_iret hz hq dX7_needs_23 (Nat.le_of_ble_eq_true rfl) (Nat.le_of_ble_eq_true rfl)
  exact key x M' h ⟨rfl, rfl⟩
