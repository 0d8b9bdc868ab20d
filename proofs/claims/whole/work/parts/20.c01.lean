theorem dX3_init_0 : decode cX3_init 0 = .ok (.aload_n 0, 1) := by decide +kernel
theorem dX3_init_1 : decode cX3_init 1 = .ok (.invokespecial 3, 3) := by decide +kernel
theorem dX3_init_4 : decode cX3_init 4 = .ok (.aload_n 0, 1) := by decide +kernel
theorem dX3_init_5 : decode cX3_init 5 = .ok (.sipush 700, 3) := by decide +kernel
theorem dX3_init_8 : decode cX3_init 8 = .ok (.newarray .int, 2) := by decide +kernel
theorem dX3_init_10 : decode cX3_init 10 = .ok (.putfield 9, 3) := by decide +kernel
theorem dX3_init_13 : decode cX3_init 13 = .ok (.aload_n 0, 1) := by decide +kernel
theorem dX3_init_14 : decode cX3_init 14 = .ok (.iconst 0, 1) := by decide +kernel
theorem dX3_init_15 : decode cX3_init 15 = .ok (.putfield 15, 3) := by decide +kernel
theorem dX3_init_18 : decode cX3_init 18 = .ok (.aload_n 0, 1) := by decide +kernel
theorem dX3_init_19 : decode cX3_init 19 = .ok (.iconst 0, 1) := by decide +kernel
theorem dX3_init_20 : decode cX3_init 20 = .ok (.putfield 19, 3) := by decide +kernel
theorem dX3_init_23 : decode cX3_init 23 = .ok (.aload_n 0, 1) := by decide +kernel
theorem dX3_init_24 : decode cX3_init 24 = .ok (.new 22, 3) := by decide +kernel
theorem dX3_init_27 : decode cX3_init 27 = .ok (.dup, 1) := by decide +kernel
theorem dX3_init_28 : decode cX3_init 28 = .ok (.invokespecial 24, 3) := by decide +kernel
theorem dX3_init_31 : decode cX3_init 31 = .ok (.putfield 25, 3) := by decide +kernel
theorem dX3_init_34 : decode cX3_init 34 = .ok (.aload_n 0, 1) := by decide +kernel
theorem dX3_init_35 : decode cX3_init 35 = .ok (.iconst 0, 1) := by decide +kernel
theorem dX3_init_36 : decode cX3_init 36 = .ok (.putfield 29, 3) := by decide +kernel
theorem dX3_init_39 : decode cX3_init 39 = .ok (.aload_n 0, 1) := by decide +kernel
theorem dX3_init_40 : decode cX3_init 40 = .ok (.iconst 0, 1) := by decide +kernel
theorem dX3_init_41 : decode cX3_init 41 = .ok (.putfield 32, 3) := by decide +kernel
theorem dX3_init_44 : decode cX3_init 44 = .ok (.aload_n 0, 1) := by decide +kernel
theorem dX3_init_45 : decode cX3_init 45 = .ok (.iconst 0, 1) := by decide +kernel
theorem dX3_init_46 : decode cX3_init 46 = .ok (.putfield 35, 3) := by decide +kernel
theorem dX3_init_49 : decode cX3_init 49 = .ok (.aload_n 0, 1) := by decide +kernel
theorem dX3_init_50 : decode cX3_init 50 = .ok (.iconst 0, 1) := by decide +kernel
theorem dX3_init_51 : decode cX3_init 51 = .ok (.putfield 38, 3) := by decide +kernel
theorem dX3_init_54 : decode cX3_init 54 = .ok (.aload_n 0, 1) := by decide +kernel
theorem dX3_init_55 : decode cX3_init 55 = .ok (.iconst 0, 1) := by decide +kernel
theorem dX3_init_56 : decode cX3_init 56 = .ok (.putfield 41, 3) := by decide +kernel
theorem dX3_init_59 : decode cX3_init 59 = .ok (.return_, 1) := by decide +kernel
abbrev rX3_init : Room := { frames := 2, cells := 15, slots := 1126, locals := 40 }
theorem cal_X3_init : CalOk yX3_init cX3_init 1 none 0 := ⟨wm_1_193, wm_1_4, by decide, by decide, by decide +kernel⟩
def f_X3_init (p0 : Nat) (M : Mm) : Option (Unit × Mm) :=
  nm (gT M) fun q1 => nm (sN M 10 700) fun M2 =>
  ck (gK M2 p0 = 3) (nm (sR M2 p0 0 (some q1)) fun M3 =>
  ck (gK M3 p0 = 3) (nm (sI M3 p0 1 (0 : Int32)) fun M4 =>
  ck (gK M4 p0 = 3) (nm (sI M4 p0 2 (0 : Int32)) fun M5 =>
  nm (gT M5) fun q6 => nm (sN M5 6 18) fun M7 =>
  bd (f_X6_init q6 M7) fun _ M8 =>
  ck (gK M8 p0 = 3) (nm (sR M8 p0 3 (some q6)) fun M9 =>
  ck (gK M9 p0 = 3) (nm (sI M9 p0 4 (0 : Int32)) fun M10 =>
  ck (gK M10 p0 = 3) (nm (sI M10 p0 5 (0 : Int32)) fun M11 =>
  ck (gK M11 p0 = 3) (nm (sI M11 p0 6 (0 : Int32)) fun M12 =>
  ck (gK M12 p0 = 3) (nm (sI M12 p0 7 (0 : Int32)) fun M13 =>
  ck (gK M13 p0 = 3) (nm (sI M13 p0 8 (0 : Int32)) fun M14 =>
  some ((), M14))))))))))
set_option maxRecDepth 20000 in
set_option maxHeartbeats 4000000 in
theorem t_X3_init (p0 : Nat) (M : Mm) (x : Unit) (M' : Mm) (h : f_X3_init p0 M = some (x, M')) : Ctr yX3_init cX3_init 1 none rX3_init (fun _ => [.ref p0]) M (zU x) M' := by
  refine ctr_of (plainFor_of_name (by decide)) (fun _ => Nat.le_of_ble_eq_true rfl) (fun z hz hin hq => ?_)
  have key : Sim z 0 [(0, .ref p0)] [] M 0 0 (f_X3_init p0 M) (fun a b => a = x ∧ b = M') := by
    have hq : Ret z zU (fun a b => a = x ∧ b = M') := fun a b e => by rw [e.1, e.2]; exact hq
    have hin := hin rfl
    unfold f_X3_init
    refine r_aload_n hz dX3_init_0 0 rfl ?_
    refine r_objInit hz dX3_init_1 wm_1_194 wm_1_27 wm_1_28 (Nat.le_of_ble_eq_true rfl) (Nat.le_of_ble_eq_true rfl) ?_
    refine r_aload_n hz dX3_init_4 0 rfl ?_
    refine r_sipush (v := 700) hz dX3_init_5 rfl ?_
    refine r_newI (len := 700) hz dX3_init_8 wm_1_133 rfl (by decide) (Nat.le_of_ble_eq_true rfl) (Nat.le_of_ble_eq_true rfl) (Nat.le_of_ble_eq_true rfl) ?_
    refine r_nma (fun q1 => ?_)
    refine r_nmM (fun M2 => ?_)
    refine r_putR (j := 0) cl3 hz dX3_init_10 (by decide) wm_1_197 (Or.inr ⟨rfl, hin⟩) rfl rfl rfl ?_
    refine r_nmM (fun M3 => ?_)
    refine r_aload_n hz dX3_init_13 0 rfl ?_
    refine r_iconst (v := 0) hz dX3_init_14 rfl ?_
    refine r_putI (j := 1) cl3 hz dX3_init_15 (by decide) wm_1_198 (Or.inl rfl) rfl rfl rfl ?_
    refine r_nmM (fun M4 => ?_)
    refine r_aload_n hz dX3_init_18 0 rfl ?_
    refine r_iconst (v := 0) hz dX3_init_19 rfl ?_
    refine r_putI (j := 2) cl3 hz dX3_init_20 (by decide) wm_1_200 (Or.inl rfl) rfl rfl rfl ?_
    refine r_nmM (fun M5 => ?_)
    refine r_aload_n hz dX3_init_23 0 rfl ?_
    refine r_new cl6 hz dX3_init_24 wm_1_195 wm_1_30 wm_1_2 (Nat.le_of_ble_eq_true rfl) (Nat.le_of_ble_eq_true rfl) ?_
    refine r_nma (fun q6 => ?_)
    refine r_nmM (fun M7 => ?_)
    refine r_dup hz dX3_init_27 rfl ?_
    refine r_callIN (As := fun _ => []) (host := "DrawnBonds") hz (fun _ _ h => t_X6_init _ _ _ _ h) cal_X6_init rfl dX3_init_28 (List.mem_of_getElem? (i := 3) rfl) wm_1_32 rfl rfl (Nat.le_of_ble_eq_true rfl) ⟨(Nat.le_of_ble_eq_true rfl), (Nat.le_of_ble_eq_true rfl)⟩ ⟨(Nat.le_of_ble_eq_true rfl), (Nat.le_of_ble_eq_true rfl)⟩ (fun _ M8 => ?_)
    refine r_putR (j := 3) cl3 hz dX3_init_31 (by decide) wm_1_201 (Or.inl rfl) rfl rfl rfl ?_
    refine r_nmM (fun M9 => ?_)
    refine r_aload_n hz dX3_init_34 0 rfl ?_
    refine r_iconst (v := 0) hz dX3_init_35 rfl ?_
    refine r_putI (j := 4) cl3 hz dX3_init_36 (by decide) wm_1_202 (Or.inl rfl) rfl rfl rfl ?_
    refine r_nmM (fun M10 => ?_)
    refine r_aload_n hz dX3_init_39 0 rfl ?_
    refine r_iconst (v := 0) hz dX3_init_40 rfl ?_
    refine r_putI (j := 5) cl3 hz dX3_init_41 (by decide) wm_1_203 (Or.inl rfl) rfl rfl rfl ?_
    refine r_nmM (fun M11 => ?_)
    refine r_aload_n hz dX3_init_44 0 rfl ?_
    refine r_iconst (v := 0) hz dX3_init_45 rfl ?_
    refine r_putI (j := 6) cl3 hz dX3_init_46 (by decide) wm_1_204 (Or.inl rfl) rfl rfl rfl ?_
    refine r_nmM (fun M12 => ?_)
    refine r_aload_n hz dX3_init_49 0 rfl ?_
    refine r_iconst (v := 0) hz dX3_init_50 rfl ?_
    refine r_putI (j := 7) cl3 hz dX3_init_51 (by decide) wm_1_205 (Or.inl rfl) rfl rfl rfl ?_
    refine r_nmM (fun M13 => ?_)
    refine r_aload_n hz dX3_init_54 0 rfl ?_
    refine r_iconst (v := 0) hz dX3_init_55 rfl ?_
    refine r_putI (j := 8) cl3 hz dX3_init_56 (by decide) wm_1_206 (Or.inl rfl) rfl rfl rfl ?_
    refine r_nmM (fun M14 => ?_)
    exact r_vret hz hq dX3_init_59 (Nat.le_of_ble_eq_true rfl) (Nat.le_of_ble_eq_true rfl)
  exact key x M' h ⟨rfl, rfl⟩
theorem dX3_feedFour_0 : decode cX3_feedFour 0 = .ok (.bipush 24, 2) := by decide +kernel
theorem dX3_feedFour_2 : decode cX3_feedFour 2 = .ok (.istore_n 2, 1) := by decide +kernel
theorem dX3_feedFour_3 : decode cX3_feedFour 3 = .ok (.iload_n 2, 1) := by decide +kernel
theorem dX3_feedFour_4 : decode cX3_feedFour 4 = .ok (.ifCond .lt 45, 3) := by decide +kernel
theorem dX3_feedFour_7 : decode cX3_feedFour 7 = .ok (.aload_n 0, 1) := by decide +kernel
theorem dX3_feedFour_8 : decode cX3_feedFour 8 = .ok (.getfield 15, 3) := by decide +kernel
theorem dX3_feedFour_11 : decode cX3_feedFour 11 = .ok (.sipush 700, 3) := by decide +kernel
theorem dX3_feedFour_14 : decode cX3_feedFour 14 = .ok (.if_icmp .ge 29, 3) := by decide +kernel
theorem dX3_feedFour_17 : decode cX3_feedFour 17 = .ok (.aload_n 0, 1) := by decide +kernel
theorem dX3_feedFour_18 : decode cX3_feedFour 18 = .ok (.getfield 9, 3) := by decide +kernel
theorem dX3_feedFour_21 : decode cX3_feedFour 21 = .ok (.aload_n 0, 1) := by decide +kernel
theorem dX3_feedFour_22 : decode cX3_feedFour 22 = .ok (.getfield 15, 3) := by decide +kernel
theorem dX3_feedFour_25 : decode cX3_feedFour 25 = .ok (.iload_n 1, 1) := by decide +kernel
theorem dX3_feedFour_26 : decode cX3_feedFour 26 = .ok (.iload_n 2, 1) := by decide +kernel
theorem dX3_feedFour_27 : decode cX3_feedFour 27 = .ok (.iushr, 1) := by decide +kernel
theorem dX3_feedFour_28 : decode cX3_feedFour 28 = .ok (.sipush 255, 3) := by decide +kernel
theorem dX3_feedFour_31 : decode cX3_feedFour 31 = .ok (.iand, 1) := by decide +kernel
theorem dX3_feedFour_32 : decode cX3_feedFour 32 = .ok (.iastore, 1) := by decide +kernel
theorem dX3_feedFour_33 : decode cX3_feedFour 33 = .ok (.aload_n 0, 1) := by decide +kernel
theorem dX3_feedFour_34 : decode cX3_feedFour 34 = .ok (.dup, 1) := by decide +kernel
theorem dX3_feedFour_35 : decode cX3_feedFour 35 = .ok (.getfield 15, 3) := by decide +kernel
theorem dX3_feedFour_38 : decode cX3_feedFour 38 = .ok (.iconst 1, 1) := by decide +kernel
theorem dX3_feedFour_39 : decode cX3_feedFour 39 = .ok (.iadd, 1) := by decide +kernel
theorem dX3_feedFour_40 : decode cX3_feedFour 40 = .ok (.putfield 15, 3) := by decide +kernel
theorem dX3_feedFour_43 : decode cX3_feedFour 43 = .ok (.iinc 2 (-8), 3) := by decide +kernel
theorem dX3_feedFour_46 : decode cX3_feedFour 46 = .ok (.goto (-43), 3) := by decide +kernel
theorem dX3_feedFour_49 : decode cX3_feedFour 49 = .ok (.return_, 1) := by decide +kernel
abbrev rX3_feedFour : Room := { frames := 0, cells := 0, slots := 0, locals := 0 }
theorem cal_X3_feedFour : CalOk yX3_feedFour cX3_feedFour 3 none 1 := ⟨wm_2_148, wm_1_4, by decide, by decide, by decide +kernel⟩
def f_X3_feedFour_3 : Nat → Nat → Int32 → Int32 → Mm → Option (Unit × Mm)
  | 0, _, _, _, _ => none
  | n + 1, x0, x1, x2, M =>
    (if x2 < 0 then
      some ((), M)
    else
      ck (gK M x0 = 3) ((if (700 : Int32) ≤ (gI M x0 1) then
        f_X3_feedFour_3 n x0 x1 (x2 + (-8 : Int32)) M
      else
        ck (gK M x0 = 3) (bR (gR M x0 0) fun q2 => ck (gK M x0 = 3) (ck (gK M q2 = 10 ∧ inb (gI M x0 1) (gN M q2)) (nm (sI M q2 ((gI M x0 1)).toNatClampNeg (((x1).toUInt32 >>> ((x2).toUInt32 &&& Int32.toUInt32 31)).toInt32 &&& (255 : Int32))) fun M3 =>
        ck (gK M3 x0 = 3) (ck (gK M3 x0 = 3) (nm (sI M3 x0 1 ((gI M3 x0 1) + (1 : Int32))) fun M4 =>
        f_X3_feedFour_3 n x0 x1 (x2 + (-8 : Int32)) M4))))))))
set_option maxRecDepth 20000 in
set_option maxHeartbeats 4000000 in
theorem s_X3_feedFour_3 {z : Zt} {K : Unit → Mm → Prop} (hz : Good z RX3 cX3_feedFour 3 rX3_feedFour none) (hq : Ret z zU K) : ∀ (n : Nat) (x0 : Nat) (x1 : Int32) (x2 : Int32) (M : Mm), Sim z 3 [(0, .ref x0), (1, .int x1), (2, .int x2)] [] M 0 0 (f_X3_feedFour_3 n x0 x1 x2 M) K := by
  intro n
  induction n with
  | zero => exact fun _ _ _ _ => r_none
  | succ n ih =>
    intro x0 x1 x2 M
    unfold f_X3_feedFour_3
    refine r_iload_n hz dX3_feedFour_3 2 rfl ?_
    refine r_if_lt (tgt := 49) hz dX3_feedFour_4 rfl ?_ ?_
    · exact r_vret hz hq dX3_feedFour_49 (Nat.le_of_ble_eq_true rfl) (Nat.le_of_ble_eq_true rfl)
    · refine r_aload_n hz dX3_feedFour_7 0 rfl ?_
      refine r_getI (j := 1) cl3 hz dX3_feedFour_8 (by decide) wm_1_198 rfl ?_
      refine r_sipush (v := 700) hz dX3_feedFour_11 rfl ?_
      refine r_icmp_ge (tgt := 43) hz dX3_feedFour_14 rfl ?_ ?_
      · refine r_iinc (v := (x2 + (-8 : Int32))) (lv' := [(2, .int (x2 + (-8 : Int32))), (0, .ref x0), (1, .int x1)]) hz dX3_feedFour_43 2 rfl rfl (by decide) rfl ?_
        refine r_goto (tgt := 3) hz dX3_feedFour_46 rfl ?_
        refine r_sub [1, 2, 0] rfl ?_
        exact ih x0 x1 (x2 + (-8 : Int32)) M
      · refine r_aload_n hz dX3_feedFour_17 0 rfl ?_
        refine r_getR (j := 0) cl3 hz dX3_feedFour_18 (by decide) wm_1_197 rfl (fun q2 => ?_)
        refine r_aload_n hz dX3_feedFour_21 0 rfl ?_
        refine r_getI (j := 1) cl3 hz dX3_feedFour_22 (by decide) wm_1_198 rfl ?_
        refine r_iload_n hz dX3_feedFour_25 1 rfl ?_
        refine r_iload_n hz dX3_feedFour_26 2 rfl ?_
        refine r_iushr hz dX3_feedFour_27 ?_
        refine r_sipush (v := 255) hz dX3_feedFour_28 rfl ?_
        refine r_iand hz dX3_feedFour_31 ?_
        refine r_iast hz dX3_feedFour_32 ?_
        refine r_nmM (fun M3 => ?_)
        refine r_aload_n hz dX3_feedFour_33 0 rfl ?_
        refine r_dup hz dX3_feedFour_34 rfl ?_
        refine r_getI (j := 1) cl3 hz dX3_feedFour_35 (by decide) wm_1_198 rfl ?_
        refine r_iconst (v := 1) hz dX3_feedFour_38 rfl ?_
        refine r_iadd hz dX3_feedFour_39 ?_
        refine r_putI (j := 1) cl3 hz dX3_feedFour_40 (by decide) wm_1_198 (Or.inl rfl) rfl rfl rfl ?_
        refine r_nmM (fun M4 => ?_)
        refine r_iinc (v := (x2 + (-8 : Int32))) (lv' := [(2, .int (x2 + (-8 : Int32))), (0, .ref x0), (1, .int x1)]) hz dX3_feedFour_43 2 rfl rfl (by decide) rfl ?_
        refine r_goto (tgt := 3) hz dX3_feedFour_46 rfl ?_
        refine r_sub [1, 2, 0] rfl ?_
        exact ih x0 x1 (x2 + (-8 : Int32)) M4
def f_X3_feedFour (p0 : Nat) (p1 : Int32) (M : Mm) : Option (Unit × Mm) :=
  f_X3_feedFour_3 FU p0 p1 (24 : Int32) M
set_option maxRecDepth 20000 in
set_option maxHeartbeats 4000000 in
theorem t_X3_feedFour (p0 : Nat) (p1 : Int32) (M : Mm) (x : Unit) (M' : Mm) (h : f_X3_feedFour p0 p1 M = some (x, M')) : Ctr yX3_feedFour cX3_feedFour 3 none rX3_feedFour (fun _ => [.ref p0, .int p1]) M (zU x) M' := by
  refine ctr_of (plainFor_of_name (by decide)) (fun _ => Nat.le_of_ble_eq_true rfl) (fun z hz hin hq => ?_)
  have key : Sim z 0 [(0, .ref p0), (1, .int p1)] [] M 0 0 (f_X3_feedFour p0 p1 M) (fun a b => a = x ∧ b = M') := by
    have hq : Ret z zU (fun a b => a = x ∧ b = M') := fun a b e => by rw [e.1, e.2]; exact hq
    unfold f_X3_feedFour
    refine r_bipush (v := 24) hz dX3_feedFour_0 rfl ?_
    refine r_istore_n (lv' := [(2, .int (24 : Int32)), (0, .ref p0), (1, .int p1)]) hz dX3_feedFour_2 (by decide) rfl ?_
    refine r_sub [1, 2, 0] rfl ?_
    exact s_X3_feedFour_3 hz hq FU p0 p1 (24 : Int32) M
  exact key x M' h ⟨rfl, rfl⟩
theorem dX3_exchange_0 : decode cX3_exchange 0 = .ok (.aload_n 0, 1) := by decide +kernel
theorem dX3_exchange_1 : decode cX3_exchange 1 = .ok (.getfield 25, 3) := by decide +kernel
theorem dX3_exchange_4 : decode cX3_exchange 4 = .ok (.astore_n 2, 1) := by decide +kernel
theorem dX3_exchange_5 : decode cX3_exchange 5 = .ok (.aload_n 0, 1) := by decide +kernel
theorem dX3_exchange_6 : decode cX3_exchange 6 = .ok (.aload_n 1, 1) := by decide +kernel
theorem dX3_exchange_7 : decode cX3_exchange 7 = .ok (.putfield 25, 3) := by decide +kernel
theorem dX3_exchange_10 : decode cX3_exchange 10 = .ok (.aload_n 2, 1) := by decide +kernel
theorem dX3_exchange_11 : decode cX3_exchange 11 = .ok (.areturn, 1) := by decide +kernel
abbrev rX3_exchange : Room := { frames := 0, cells := 0, slots := 0, locals := 0 }
theorem cal_X3_exchange : CalOk yX3_exchange cX3_exchange 3 (some (.object "DrawnBonds$Terms")) 1 := ⟨wm_3_105, wm_1_4, by decide, by decide, by decide +kernel⟩
def f_X3_exchange (p0 : Nat) (p1 : Nat) (M : Mm) : Option (Nat × Mm) :=
  ck (gK M p0 = 3) (bR (gR M p0 3) fun q1 => ck (gK M p0 = 3) (nm (sR M p0 3 (some p1)) fun M2 =>
  some (q1, M2)))
set_option maxRecDepth 20000 in
set_option maxHeartbeats 4000000 in
theorem t_X3_exchange (p0 : Nat) (p1 : Nat) (M : Mm) (x : Nat) (M' : Mm) (h : f_X3_exchange p0 p1 M = some (x, M')) : Ctr yX3_exchange cX3_exchange 3 (some (.object "DrawnBonds$Terms")) rX3_exchange (fun _ => [.ref p0, .ref p1]) M (zA x) M' := by
  refine ctr_of (plainFor_of_name (by decide)) (fun _ => Nat.le_of_ble_eq_true rfl) (fun z hz hin hq => ?_)
  have key : Sim z 0 [(0, .ref p0), (1, .ref p1)] [] M 0 0 (f_X3_exchange p0 p1 M) (fun a b => a = x ∧ b = M') := by
    have hq : Ret z zA (fun a b => a = x ∧ b = M') := fun a b e => by rw [e.1, e.2]; exact hq
    unfold f_X3_exchange
    refine r_aload_n hz dX3_exchange_0 0 rfl ?_
    refine r_getR (j := 3) cl3 hz dX3_exchange_1 (by decide) wm_1_201 rfl (fun q1 => ?_)
    refine r_astore_n (lv' := [(2, .ref q1), (0, .ref p0), (1, .ref p1)]) hz dX3_exchange_4 (by decide) rfl ?_
    refine r_aload_n hz dX3_exchange_5 1 rfl ?_
    refine r_aload_n hz dX3_exchange_6 2 rfl ?_
    refine r_putR (j := 3) cl3 hz dX3_exchange_7 (by decide) wm_1_201 (Or.inl rfl) rfl rfl rfl ?_
    refine r_nmM (fun M2 => ?_)
    refine r_aload_n hz dX3_exchange_10 0 rfl ?_
    exact r_aret hz hq dX3_exchange_11 (Nat.le_of_ble_eq_true rfl) (Nat.le_of_ble_eq_true rfl)
  exact key x M' h ⟨rfl, rfl⟩
theorem dX6_clear_0 : decode cX6_clear 0 = .ok (.aload_n 0, 1) := by decide +kernel
theorem dX6_clear_1 : decode cX6_clear 1 = .ok (.iconst 0, 1) := by decide +kernel
theorem dX6_clear_2 : decode cX6_clear 2 = .ok (.putfield 9, 3) := by decide +kernel
theorem dX6_clear_5 : decode cX6_clear 5 = .ok (.aload_n 0, 1) := by decide +kernel
theorem dX6_clear_6 : decode cX6_clear 6 = .ok (.iconst 0, 1) := by decide +kernel
theorem dX6_clear_7 : decode cX6_clear 7 = .ok (.putfield 15, 3) := by decide +kernel
theorem dX6_clear_10 : decode cX6_clear 10 = .ok (.aload_n 0, 1) := by decide +kernel
theorem dX6_clear_11 : decode cX6_clear 11 = .ok (.iconst 0, 1) := by decide +kernel
theorem dX6_clear_12 : decode cX6_clear 12 = .ok (.putfield 18, 3) := by decide +kernel
theorem dX6_clear_15 : decode cX6_clear 15 = .ok (.aload_n 0, 1) := by decide +kernel
theorem dX6_clear_16 : decode cX6_clear 16 = .ok (.iconst 0, 1) := by decide +kernel
theorem dX6_clear_17 : decode cX6_clear 17 = .ok (.putfield 21, 3) := by decide +kernel
theorem dX6_clear_20 : decode cX6_clear 20 = .ok (.aload_n 0, 1) := by decide +kernel
theorem dX6_clear_21 : decode cX6_clear 21 = .ok (.iconst 0, 1) := by decide +kernel
theorem dX6_clear_22 : decode cX6_clear 22 = .ok (.putfield 24, 3) := by decide +kernel
theorem dX6_clear_25 : decode cX6_clear 25 = .ok (.aload_n 0, 1) := by decide +kernel
theorem dX6_clear_26 : decode cX6_clear 26 = .ok (.getfield 58, 3) := by decide +kernel
theorem dX6_clear_29 : decode cX6_clear 29 = .ok (.iconst (-1), 1) := by decide +kernel
theorem dX6_clear_30 : decode cX6_clear 30 = .ok (.invokestatic 67, 3) := by decide +kernel
theorem dX6_clear_33 : decode cX6_clear 33 = .ok (.aload_n 0, 1) := by decide +kernel
theorem dX6_clear_34 : decode cX6_clear 34 = .ok (.getfield 61, 3) := by decide +kernel
theorem dX6_clear_37 : decode cX6_clear 37 = .ok (.iconst 0, 1) := by decide +kernel
theorem dX6_clear_38 : decode cX6_clear 38 = .ok (.invokestatic 67, 3) := by decide +kernel
theorem dX6_clear_41 : decode cX6_clear 41 = .ok (.aload_n 0, 1) := by decide +kernel
theorem dX6_clear_42 : decode cX6_clear 42 = .ok (.getfield 64, 3) := by decide +kernel
theorem dX6_clear_45 : decode cX6_clear 45 = .ok (.iconst 0, 1) := by decide +kernel
theorem dX6_clear_46 : decode cX6_clear 46 = .ok (.invokestatic 67, 3) := by decide +kernel
theorem dX6_clear_49 : decode cX6_clear 49 = .ok (.return_, 1) := by decide +kernel
abbrev rX6_clear : Room := { frames := 1, cells := 0, slots := 0, locals := 23 }
theorem cal_X6_clear : CalOk yX6_clear cX6_clear 1 none 0 := ⟨wm_2_160, wm_1_2, by decide, by decide, by decide +kernel⟩
def f_X6_clear (p0 : Nat) (M : Mm) : Option (Unit × Mm) :=
  ck (gK M p0 = 6) (nm (sI M p0 0 (0 : Int32)) fun M1 =>
  ck (gK M1 p0 = 6) (nm (sI M1 p0 1 (0 : Int32)) fun M2 =>
  ck (gK M2 p0 = 6) (nm (sI M2 p0 2 (0 : Int32)) fun M3 =>
  ck (gK M3 p0 = 6) (nm (sI M3 p0 3 (0 : Int32)) fun M4 =>
  ck (gK M4 p0 = 6) (nm (sI M4 p0 4 (0 : Int32)) fun M5 =>
  ck (gK M5 p0 = 6) (bR (gR M5 p0 15) fun q6 => bd (f_J7_fill_53178 q6 (-1 : Int32) M5) fun _ M7 =>
  ck (gK M7 p0 = 6) (bR (gR M7 p0 16) fun q8 => bd (f_J7_fill_53178 q8 (0 : Int32) M7) fun _ M9 =>
  ck (gK M9 p0 = 6) (bR (gR M9 p0 17) fun q10 => bd (f_J7_fill_53178 q10 (0 : Int32) M9) fun _ M11 =>
  some ((), M11)))))))))
set_option maxRecDepth 20000 in
set_option maxHeartbeats 4000000 in
theorem t_X6_clear (p0 : Nat) (M : Mm) (x : Unit) (M' : Mm) (h : f_X6_clear p0 M = some (x, M')) : Ctr yX6_clear cX6_clear 1 none rX6_clear (fun _ => [.ref p0]) M (zU x) M' := by
  refine ctr_of (plainFor_of_name (by decide)) (fun _ => Nat.le_of_ble_eq_true rfl) (fun z hz hin hq => ?_)
  have key : Sim z 0 [(0, .ref p0)] [] M 0 0 (f_X6_clear p0 M) (fun a b => a = x ∧ b = M') := by
    have hq : Ret z zU (fun a b => a = x ∧ b = M') := fun a b e => by rw [e.1, e.2]; exact hq
    unfold f_X6_clear
    refine r_aload_n hz dX6_clear_0 0 rfl ?_
    refine r_iconst (v := 0) hz dX6_clear_1 rfl ?_
    refine r_putI (j := 0) cl6 hz dX6_clear_2 (by decide) wm_1_35 (Or.inl rfl) rfl rfl rfl ?_
    refine r_nmM (fun M1 => ?_)
    refine r_aload_n hz dX6_clear_5 0 rfl ?_
    refine r_iconst (v := 0) hz dX6_clear_6 rfl ?_
    refine r_putI (j := 1) cl6 hz dX6_clear_7 (by decide) wm_1_40 (Or.inl rfl) rfl rfl rfl ?_
    refine r_nmM (fun M2 => ?_)
    refine r_aload_n hz dX6_clear_10 0 rfl ?_
    refine r_iconst (v := 0) hz dX6_clear_11 rfl ?_
    refine r_putI (j := 2) cl6 hz dX6_clear_12 (by decide) wm_1_43 (Or.inl rfl) rfl rfl rfl ?_
    refine r_nmM (fun M3 => ?_)
    refine r_aload_n hz dX6_clear_15 0 rfl ?_
    refine r_iconst (v := 0) hz dX6_clear_16 rfl ?_
    refine r_putI (j := 3) cl6 hz dX6_clear_17 (by decide) wm_1_45 (Or.inl rfl) rfl rfl rfl ?_
    refine r_nmM (fun M4 => ?_)
    refine r_aload_n hz dX6_clear_20 0 rfl ?_
    refine r_iconst (v := 0) hz dX6_clear_21 rfl ?_
    refine r_putI (j := 4) cl6 hz dX6_clear_22 (by decide) wm_1_47 (Or.inl rfl) rfl rfl rfl ?_
    refine r_nmM (fun M5 => ?_)
    refine r_aload_n hz dX6_clear_25 0 rfl ?_
    refine r_getR (j := 15) cl6 hz dX6_clear_26 (by decide) wm_1_88 rfl (fun q6 => ?_)
    refine r_iconst (v := -1) hz dX6_clear_29 rfl ?_
    refine r_callSv (As := fun _ => [.ref q6, .int (-1 : Int32)]) hz (fun _ _ h => t_J7_fill_53178 _ _ _ _ _ h) cal_J7_fill_53178 dX6_clear_30 wm_2_161 wm_2_162 rfl rfl (Nat.le_of_ble_eq_true rfl) ⟨(Nat.le_of_ble_eq_true rfl), (Nat.le_of_ble_eq_true rfl)⟩ ⟨(Nat.le_of_ble_eq_true rfl), (Nat.le_of_ble_eq_true rfl)⟩ (fun _ M7 => ?_)
    refine r_aload_n hz dX6_clear_33 0 rfl ?_
    refine r_getR (j := 16) cl6 hz dX6_clear_34 (by decide) wm_1_90 rfl (fun q8 => ?_)
    refine r_iconst (v := 0) hz dX6_clear_37 rfl ?_
    refine r_callSv (As := fun _ => [.ref q8, .int (0 : Int32)]) hz (fun _ _ h => t_J7_fill_53178 _ _ _ _ _ h) cal_J7_fill_53178 dX6_clear_38 wm_2_161 wm_2_162 rfl rfl (Nat.le_of_ble_eq_true rfl) ⟨(Nat.le_of_ble_eq_true rfl), (Nat.le_of_ble_eq_true rfl)⟩ ⟨(Nat.le_of_ble_eq_true rfl), (Nat.le_of_ble_eq_true rfl)⟩ (fun _ M9 => ?_)
    refine r_aload_n hz dX6_clear_41 0 rfl ?_
    refine r_getR (j := 17) cl6 hz dX6_clear_42 (by decide) wm_1_93 rfl (fun q10 => ?_)
    refine r_iconst (v := 0) hz dX6_clear_45 rfl ?_
    refine r_callSv (As := fun _ => [.ref q10, .int (0 : Int32)]) hz (fun _ _ h => t_J7_fill_53178 _ _ _ _ _ h) cal_J7_fill_53178 dX6_clear_46 wm_2_161 wm_2_162 rfl rfl (Nat.le_of_ble_eq_true rfl) ⟨(Nat.le_of_ble_eq_true rfl), (Nat.le_of_ble_eq_true rfl)⟩ ⟨(Nat.le_of_ble_eq_true rfl), (Nat.le_of_ble_eq_true rfl)⟩ (fun _ M11 => ?_)
    exact r_vret hz hq dX6_clear_49 (Nat.le_of_ble_eq_true rfl) (Nat.le_of_ble_eq_true rfl)
  exact key x M' h ⟨rfl, rfl⟩
theorem dJ9_min_7cf53_0 : decode cJ9_min_7cf53 0 = .ok (.iload_n 0, 1) := by decide +kernel
theorem dJ9_min_7cf53_1 : decode cJ9_min_7cf53 1 = .ok (.iload_n 1, 1) := by decide +kernel
theorem dJ9_min_7cf53_2 : decode cJ9_min_7cf53 2 = .ok (.if_icmp .gt 7, 3) := by decide +kernel
theorem dJ9_min_7cf53_5 : decode cJ9_min_7cf53 5 = .ok (.iload_n 0, 1) := by decide +kernel
theorem dJ9_min_7cf53_6 : decode cJ9_min_7cf53 6 = .ok (.goto 4, 3) := by decide +kernel
theorem dJ9_min_7cf53_9 : decode cJ9_min_7cf53 9 = .ok (.iload_n 1, 1) := by decide +kernel
theorem dJ9_min_7cf53_10 : decode cJ9_min_7cf53 10 = .ok (.ireturn, 1) := by decide +kernel
abbrev rJ9_min_7cf53 : Room := { frames := 0, cells := 0, slots := 0, locals := 0 }
theorem cal_J9_min_7cf53 : CalOk yJ9_min_7cf53 cJ9_min_7cf53 2 (some .int) 2 := ⟨wm_2_166, wm_1_11, by decide, by decide, by decide +kernel⟩
def f_J9_min_7cf53 (p0 : Int32) (p1 : Int32) (M : Mm) : Option (Int32 × Mm) :=
  (if p1 < p0 then
    some (p1, M)
  else
    some (p0, M))
set_option maxRecDepth 20000 in
set_option maxHeartbeats 4000000 in
theorem t_J9_min_7cf53 (p0 : Int32) (p1 : Int32) (M : Mm) (x : Int32) (M' : Mm) (h : f_J9_min_7cf53 p0 p1 M = some (x, M')) : Ctr yJ9_min_7cf53 cJ9_min_7cf53 2 (some .int) rJ9_min_7cf53 (fun _ => [.int p0, .int p1]) M (zI x) M' := by
  refine ctr_of (by decide +kernel) (fun _ => Nat.le_of_ble_eq_true rfl) (fun z hz hin hq => ?_)
  have key : Sim z 0 [(0, .int p0), (1, .int p1)] [] M 0 0 (f_J9_min_7cf53 p0 p1 M) (fun a b => a = x ∧ b = M') := by
    have hq : Ret z zI (fun a b => a = x ∧ b = M') := fun a b e => by rw [e.1, e.2]; exact hq
    unfold f_J9_min_7cf53
    refine r_iload_n hz dJ9_min_7cf53_0 0 rfl ?_
    refine r_iload_n hz dJ9_min_7cf53_1 1 rfl ?_
    refine r_icmp_gt (tgt := 9) hz dJ9_min_7cf53_2 rfl ?_ ?_
    · refine r_iload_n hz dJ9_min_7cf53_9 1 rfl ?_
      exact r_iret hz hq dJ9_min_7cf53_10 (Nat.le_of_ble_eq_true rfl) (Nat.le_of_ble_eq_true rfl)
    · refine r_iload_n hz dJ9_min_7cf53_5 0 rfl ?_
      refine r_goto (tgt := 10) hz dJ9_min_7cf53_6 rfl ?_
      exact r_iret hz hq dJ9_min_7cf53_10 (Nat.le_of_ble_eq_true rfl) (Nat.le_of_ble_eq_true rfl)
  exact key x M' h ⟨rfl, rfl⟩
theorem dX3_kindOf_0 : decode cX3_kindOf 0 = .ok (.iload_n 0, 1) := by decide +kernel
theorem dX3_kindOf_1 : decode cX3_kindOf 1 = .ok (.bipush 97, 2) := by decide +kernel
theorem dX3_kindOf_3 : decode cX3_kindOf 3 = .ok (.if_icmp .lt 11, 3) := by decide +kernel
theorem dX3_kindOf_6 : decode cX3_kindOf 6 = .ok (.iload_n 0, 1) := by decide +kernel
theorem dX3_kindOf_7 : decode cX3_kindOf 7 = .ok (.bipush 122, 2) := by decide +kernel
theorem dX3_kindOf_9 : decode cX3_kindOf 9 = .ok (.if_icmp .gt 5, 3) := by decide +kernel
theorem dX3_kindOf_12 : decode cX3_kindOf 12 = .ok (.iconst 1, 1) := by decide +kernel
theorem dX3_kindOf_13 : decode cX3_kindOf 13 = .ok (.ireturn, 1) := by decide +kernel
theorem dX3_kindOf_14 : decode cX3_kindOf 14 = .ok (.iload_n 0, 1) := by decide +kernel
theorem dX3_kindOf_15 : decode cX3_kindOf 15 = .ok (.bipush 48, 2) := by decide +kernel
theorem dX3_kindOf_17 : decode cX3_kindOf 17 = .ok (.if_icmp .lt 11, 3) := by decide +kernel
theorem dX3_kindOf_20 : decode cX3_kindOf 20 = .ok (.iload_n 0, 1) := by decide +kernel
theorem dX3_kindOf_21 : decode cX3_kindOf 21 = .ok (.bipush 57, 2) := by decide +kernel
theorem dX3_kindOf_23 : decode cX3_kindOf 23 = .ok (.if_icmp .gt 5, 3) := by decide +kernel
theorem dX3_kindOf_26 : decode cX3_kindOf 26 = .ok (.iconst 2, 1) := by decide +kernel
theorem dX3_kindOf_27 : decode cX3_kindOf 27 = .ok (.ireturn, 1) := by decide +kernel
theorem dX3_kindOf_28 : decode cX3_kindOf 28 = .ok (.iload_n 0, 1) := by decide +kernel
theorem dX3_kindOf_29 : decode cX3_kindOf 29 = .ok (.bipush 59, 2) := by decide +kernel
theorem dX3_kindOf_31 : decode cX3_kindOf 31 = .ok (.if_icmp .ne 7, 3) := by decide +kernel
theorem dX3_kindOf_34 : decode cX3_kindOf 34 = .ok (.iconst 3, 1) := by decide +kernel
theorem dX3_kindOf_35 : decode cX3_kindOf 35 = .ok (.goto 4, 3) := by decide +kernel
theorem dX3_kindOf_38 : decode cX3_kindOf 38 = .ok (.iconst 0, 1) := by decide +kernel
theorem dX3_kindOf_39 : decode cX3_kindOf 39 = .ok (.ireturn, 1) := by decide +kernel
abbrev rX3_kindOf : Room := { frames := 0, cells := 0, slots := 0, locals := 0 }
theorem cal_X3_kindOf : CalOk yX3_kindOf cX3_kindOf 1 (some .int) 1 := ⟨wm_2_173, wm_1_4, by decide, by decide, by decide +kernel⟩
def f_X3_kindOf_14 (x0 : Int32) (M : Mm) : Option (Int32 × Mm) :=
  (if x0 < (48 : Int32) then
    (if ¬ x0 = (59 : Int32) then
      some ((0 : Int32), M)
    else
      some ((3 : Int32), M))
  else
    (if (57 : Int32) < x0 then
      (if ¬ x0 = (59 : Int32) then
        some ((0 : Int32), M)
      else
        some ((3 : Int32), M))
    else
      some ((2 : Int32), M)))
set_option maxRecDepth 20000 in
set_option maxHeartbeats 4000000 in
theorem s_X3_kindOf_14 {z : Zt} {K : Int32 → Mm → Prop} (hz : Good z RX3 cX3_kindOf 1 rX3_kindOf (some .int)) (hq : Ret z zI K) : ∀ (x0 : Int32) (M : Mm), Sim z 14 [(0, .int x0)] [] M 0 0 (f_X3_kindOf_14 x0 M) K := by
  intro x0 M
  unfold f_X3_kindOf_14
  refine r_iload_n hz dX3_kindOf_14 0 rfl ?_
  refine r_bipush (v := 48) hz dX3_kindOf_15 rfl ?_
  refine r_icmp_lt (tgt := 28) hz dX3_kindOf_17 rfl ?_ ?_
  · refine r_iload_n hz dX3_kindOf_28 0 rfl ?_
    refine r_bipush (v := 59) hz dX3_kindOf_29 rfl ?_
    refine r_icmp_ne (tgt := 38) hz dX3_kindOf_31 rfl ?_ ?_
    · refine r_iconst (v := 0) hz dX3_kindOf_38 rfl ?_
      exact r_iret hz hq dX3_kindOf_39 (Nat.le_of_ble_eq_true rfl) (Nat.le_of_ble_eq_true rfl)
    · refine r_iconst (v := 3) hz dX3_kindOf_34 rfl ?_
      refine r_goto (tgt := 39) hz dX3_kindOf_35 rfl ?_
      exact r_iret hz hq dX3_kindOf_39 (Nat.le_of_ble_eq_true rfl) (Nat.le_of_ble_eq_true rfl)
  · refine r_iload_n hz dX3_kindOf_20 0 rfl ?_
    refine r_bipush (v := 57) hz dX3_kindOf_21 rfl ?_
    refine r_icmp_gt (tgt := 28) hz dX3_kindOf_23 rfl ?_ ?_
    · refine r_iload_n hz dX3_kindOf_28 0 rfl ?_
      refine r_bipush (v := 59) hz dX3_kindOf_29 rfl ?_
      refine r_icmp_ne (tgt := 38) hz dX3_kindOf_31 rfl ?_ ?_
      · refine r_iconst (v := 0) hz dX3_kindOf_38 rfl ?_
        exact r_iret hz hq dX3_kindOf_39 (Nat.le_of_ble_eq_true rfl) (Nat.le_of_ble_eq_true rfl)
      · refine r_iconst (v := 3) hz dX3_kindOf_34 rfl ?_
        refine r_goto (tgt := 39) hz dX3_kindOf_35 rfl ?_
        exact r_iret hz hq dX3_kindOf_39 (Nat.le_of_ble_eq_true rfl) (Nat.le_of_ble_eq_true rfl)
    · refine r_iconst (v := 2) hz dX3_kindOf_26 rfl ?_
      exact r_iret hz hq dX3_kindOf_27 (Nat.le_of_ble_eq_true rfl) (Nat.le_of_ble_eq_true rfl)
def f_X3_kindOf (p0 : Int32) (M : Mm) : Option (Int32 × Mm) :=
  (if p0 < (97 : Int32) then
    f_X3_kindOf_14 p0 M
  else
    (if (122 : Int32) < p0 then
      f_X3_kindOf_14 p0 M
    else
      some ((1 : Int32), M)))
set_option maxRecDepth 20000 in
set_option maxHeartbeats 4000000 in
theorem t_X3_kindOf (p0 : Int32) (M : Mm) (x : Int32) (M' : Mm) (h : f_X3_kindOf p0 M = some (x, M')) : Ctr yX3_kindOf cX3_kindOf 1 (some .int) rX3_kindOf (fun _ => [.int p0]) M (zI x) M' := by
  refine ctr_of (plainFor_of_name (by decide)) (fun _ => Nat.le_of_ble_eq_true rfl) (fun z hz hin hq => ?_)
  have key : Sim z 0 [(0, .int p0)] [] M 0 0 (f_X3_kindOf p0 M) (fun a b => a = x ∧ b = M') := by
    have hq : Ret z zI (fun a b => a = x ∧ b = M') := fun a b e => by rw [e.1, e.2]; exact hq
    unfold f_X3_kindOf
    refine r_iload_n hz dX3_kindOf_0 0 rfl ?_
    refine r_bipush (v := 97) hz dX3_kindOf_1 rfl ?_
    refine r_icmp_lt (tgt := 14) hz dX3_kindOf_3 rfl ?_ ?_
    · exact s_X3_kindOf_14 hz hq p0 M
    · refine r_iload_n hz dX3_kindOf_6 0 rfl ?_
      refine r_bipush (v := 122) hz dX3_kindOf_7 rfl ?_
      refine r_icmp_gt (tgt := 14) hz dX3_kindOf_9 rfl ?_ ?_
      · exact s_X3_kindOf_14 hz hq p0 M
      · refine r_iconst (v := 1) hz dX3_kindOf_12 rfl ?_
        exact r_iret hz hq dX3_kindOf_13 (Nat.le_of_ble_eq_true rfl) (Nat.le_of_ble_eq_true rfl)
  exact key x M' h ⟨rfl, rfl⟩
theorem dX3_takeAlike_0 : decode cX3_takeAlike 0 = .ok (.aload_n 0, 1) := by decide +kernel
theorem dX3_takeAlike_1 : decode cX3_takeAlike 1 = .ok (.getfield 29, 3) := by decide +kernel
theorem dX3_takeAlike_4 : decode cX3_takeAlike 4 = .ok (.iconst 1, 1) := by decide +kernel
theorem dX3_takeAlike_5 : decode cX3_takeAlike 5 = .ok (.if_icmp .ne 8, 3) := by decide +kernel
theorem dX3_takeAlike_8 : decode cX3_takeAlike 8 = .ok (.bipush 97, 2) := by decide +kernel
theorem dX3_takeAlike_10 : decode cX3_takeAlike 10 = .ok (.goto 5, 3) := by decide +kernel
theorem dX3_takeAlike_13 : decode cX3_takeAlike 13 = .ok (.bipush 48, 2) := by decide +kernel
theorem dX3_takeAlike_15 : decode cX3_takeAlike 15 = .ok (.istore_n 1, 1) := by decide +kernel
theorem dX3_takeAlike_16 : decode cX3_takeAlike 16 = .ok (.aload_n 0, 1) := by decide +kernel
theorem dX3_takeAlike_17 : decode cX3_takeAlike 17 = .ok (.getfield 29, 3) := by decide +kernel
theorem dX3_takeAlike_20 : decode cX3_takeAlike 20 = .ok (.iconst 1, 1) := by decide +kernel
theorem dX3_takeAlike_21 : decode cX3_takeAlike 21 = .ok (.if_icmp .ne 8, 3) := by decide +kernel
theorem dX3_takeAlike_24 : decode cX3_takeAlike 24 = .ok (.bipush 122, 2) := by decide +kernel
theorem dX3_takeAlike_26 : decode cX3_takeAlike 26 = .ok (.goto 5, 3) := by decide +kernel
theorem dX3_takeAlike_29 : decode cX3_takeAlike 29 = .ok (.bipush 57, 2) := by decide +kernel
theorem dX3_takeAlike_31 : decode cX3_takeAlike 31 = .ok (.istore_n 2, 1) := by decide +kernel
theorem dX3_takeAlike_32 : decode cX3_takeAlike 32 = .ok (.aload_n 0, 1) := by decide +kernel
theorem dX3_takeAlike_33 : decode cX3_takeAlike 33 = .ok (.getfield 29, 3) := by decide +kernel
theorem dX3_takeAlike_36 : decode cX3_takeAlike 36 = .ok (.iconst 1, 1) := by decide +kernel
theorem dX3_takeAlike_37 : decode cX3_takeAlike 37 = .ok (.if_icmp .ne 8, 3) := by decide +kernel
theorem dX3_takeAlike_40 : decode cX3_takeAlike 40 = .ok (.bipush 27, 2) := by decide +kernel
theorem dX3_takeAlike_42 : decode cX3_takeAlike 42 = .ok (.goto 5, 3) := by decide +kernel
theorem dX3_takeAlike_45 : decode cX3_takeAlike 45 = .ok (.bipush 10, 2) := by decide +kernel
theorem dX3_takeAlike_47 : decode cX3_takeAlike 47 = .ok (.istore_n 3, 1) := by decide +kernel
theorem dX3_takeAlike_48 : decode cX3_takeAlike 48 = .ok (.aload_n 0, 1) := by decide +kernel
theorem dX3_takeAlike_49 : decode cX3_takeAlike 49 = .ok (.getfield 29, 3) := by decide +kernel
theorem dX3_takeAlike_52 : decode cX3_takeAlike 52 = .ok (.iconst 1, 1) := by decide +kernel
theorem dX3_takeAlike_53 : decode cX3_takeAlike 53 = .ok (.if_icmp .ne 8, 3) := by decide +kernel
theorem dX3_takeAlike_56 : decode cX3_takeAlike 56 = .ok (.bipush 96, 2) := by decide +kernel
theorem dX3_takeAlike_58 : decode cX3_takeAlike 58 = .ok (.goto 5, 3) := by decide +kernel
theorem dX3_takeAlike_61 : decode cX3_takeAlike 61 = .ok (.bipush 48, 2) := by decide +kernel
theorem dX3_takeAlike_63 : decode cX3_takeAlike 63 = .ok (.istore 4, 2) := by decide +kernel
theorem dX3_takeAlike_65 : decode cX3_takeAlike 65 = .ok (.aload_n 0, 1) := by decide +kernel
theorem dX3_takeAlike_66 : decode cX3_takeAlike 66 = .ok (.getfield 29, 3) := by decide +kernel
theorem dX3_takeAlike_69 : decode cX3_takeAlike 69 = .ok (.iconst 1, 1) := by decide +kernel
theorem dX3_takeAlike_70 : decode cX3_takeAlike 70 = .ok (.if_icmp .ne 8, 3) := by decide +kernel
theorem dX3_takeAlike_73 : decode cX3_takeAlike 73 = .ok (.bipush 6, 2) := by decide +kernel
theorem dX3_takeAlike_75 : decode cX3_takeAlike 75 = .ok (.goto 4, 3) := by decide +kernel
theorem dX3_takeAlike_78 : decode cX3_takeAlike 78 = .ok (.iconst 5, 1) := by decide +kernel
theorem dX3_takeAlike_79 : decode cX3_takeAlike 79 = .ok (.istore 5, 2) := by decide +kernel
theorem dX3_takeAlike_81 : decode cX3_takeAlike 81 = .ok (.aload_n 0, 1) := by decide +kernel
theorem dX3_takeAlike_82 : decode cX3_takeAlike 82 = .ok (.iconst 0, 1) := by decide +kernel
theorem dX3_takeAlike_83 : decode cX3_takeAlike 83 = .ok (.putfield 38, 3) := by decide +kernel
theorem dX3_takeAlike_86 : decode cX3_takeAlike 86 = .ok (.aload_n 0, 1) := by decide +kernel
theorem dX3_takeAlike_87 : decode cX3_takeAlike 87 = .ok (.getfield 35, 3) := by decide +kernel
theorem dX3_takeAlike_90 : decode cX3_takeAlike 90 = .ok (.aload_n 0, 1) := by decide +kernel
theorem dX3_takeAlike_91 : decode cX3_takeAlike 91 = .ok (.getfield 19, 3) := by decide +kernel
theorem dX3_takeAlike_94 : decode cX3_takeAlike 94 = .ok (.if_icmp .ge 83, 3) := by decide +kernel
theorem dX3_takeAlike_97 : decode cX3_takeAlike 97 = .ok (.aload_n 0, 1) := by decide +kernel
theorem dX3_takeAlike_98 : decode cX3_takeAlike 98 = .ok (.getfield 9, 3) := by decide +kernel
theorem dX3_takeAlike_101 : decode cX3_takeAlike 101 = .ok (.aload_n 0, 1) := by decide +kernel
theorem dX3_takeAlike_102 : decode cX3_takeAlike 102 = .ok (.getfield 35, 3) := by decide +kernel
theorem dX3_takeAlike_105 : decode cX3_takeAlike 105 = .ok (.iaload, 1) := by decide +kernel
theorem dX3_takeAlike_106 : decode cX3_takeAlike 106 = .ok (.iload_n 1, 1) := by decide +kernel
theorem dX3_takeAlike_107 : decode cX3_takeAlike 107 = .ok (.if_icmp .lt 70, 3) := by decide +kernel
theorem dX3_takeAlike_110 : decode cX3_takeAlike 110 = .ok (.aload_n 0, 1) := by decide +kernel
theorem dX3_takeAlike_111 : decode cX3_takeAlike 111 = .ok (.getfield 9, 3) := by decide +kernel
theorem dX3_takeAlike_114 : decode cX3_takeAlike 114 = .ok (.aload_n 0, 1) := by decide +kernel
theorem dX3_takeAlike_115 : decode cX3_takeAlike 115 = .ok (.getfield 35, 3) := by decide +kernel
theorem dX3_takeAlike_118 : decode cX3_takeAlike 118 = .ok (.iaload, 1) := by decide +kernel
theorem dX3_takeAlike_119 : decode cX3_takeAlike 119 = .ok (.iload_n 2, 1) := by decide +kernel
theorem dX3_takeAlike_120 : decode cX3_takeAlike 120 = .ok (.if_icmp .gt 57, 3) := by decide +kernel
theorem dX3_takeAlike_123 : decode cX3_takeAlike 123 = .ok (.aload_n 0, 1) := by decide +kernel
theorem dX3_takeAlike_124 : decode cX3_takeAlike 124 = .ok (.aload_n 0, 1) := by decide +kernel
theorem dX3_takeAlike_125 : decode cX3_takeAlike 125 = .ok (.getfield 35, 3) := by decide +kernel
theorem dX3_takeAlike_128 : decode cX3_takeAlike 128 = .ok (.aload_n 0, 1) := by decide +kernel
theorem dX3_takeAlike_129 : decode cX3_takeAlike 129 = .ok (.getfield 32, 3) := by decide +kernel
theorem dX3_takeAlike_132 : decode cX3_takeAlike 132 = .ok (.isub, 1) := by decide +kernel
theorem dX3_takeAlike_133 : decode cX3_takeAlike 133 = .ok (.iload 5, 2) := by decide +kernel
theorem dX3_takeAlike_135 : decode cX3_takeAlike 135 = .ok (.if_icmp .ge 25, 3) := by decide +kernel
theorem dX3_takeAlike_138 : decode cX3_takeAlike 138 = .ok (.aload_n 0, 1) := by decide +kernel
theorem dX3_takeAlike_139 : decode cX3_takeAlike 139 = .ok (.getfield 38, 3) := by decide +kernel
theorem dX3_takeAlike_142 : decode cX3_takeAlike 142 = .ok (.iload_n 3, 1) := by decide +kernel
theorem dX3_takeAlike_143 : decode cX3_takeAlike 143 = .ok (.imul, 1) := by decide +kernel
theorem dX3_takeAlike_144 : decode cX3_takeAlike 144 = .ok (.aload_n 0, 1) := by decide +kernel
theorem dX3_takeAlike_145 : decode cX3_takeAlike 145 = .ok (.getfield 9, 3) := by decide +kernel
theorem dX3_takeAlike_148 : decode cX3_takeAlike 148 = .ok (.aload_n 0, 1) := by decide +kernel
theorem dX3_takeAlike_149 : decode cX3_takeAlike 149 = .ok (.getfield 35, 3) := by decide +kernel
theorem dX3_takeAlike_152 : decode cX3_takeAlike 152 = .ok (.iaload, 1) := by decide +kernel
theorem dX3_takeAlike_153 : decode cX3_takeAlike 153 = .ok (.iload 4, 2) := by decide +kernel
theorem dX3_takeAlike_155 : decode cX3_takeAlike 155 = .ok (.isub, 1) := by decide +kernel
theorem dX3_takeAlike_156 : decode cX3_takeAlike 156 = .ok (.iadd, 1) := by decide +kernel
theorem dX3_takeAlike_157 : decode cX3_takeAlike 157 = .ok (.goto 4, 3) := by decide +kernel
theorem dX3_takeAlike_160 : decode cX3_takeAlike 160 = .ok (.iconst (-1), 1) := by decide +kernel
theorem dX3_takeAlike_161 : decode cX3_takeAlike 161 = .ok (.putfield 38, 3) := by decide +kernel
theorem dX3_takeAlike_164 : decode cX3_takeAlike 164 = .ok (.aload_n 0, 1) := by decide +kernel
theorem dX3_takeAlike_165 : decode cX3_takeAlike 165 = .ok (.dup, 1) := by decide +kernel
theorem dX3_takeAlike_166 : decode cX3_takeAlike 166 = .ok (.getfield 35, 3) := by decide +kernel
theorem dX3_takeAlike_169 : decode cX3_takeAlike 169 = .ok (.iconst 1, 1) := by decide +kernel
theorem dX3_takeAlike_170 : decode cX3_takeAlike 170 = .ok (.iadd, 1) := by decide +kernel
theorem dX3_takeAlike_171 : decode cX3_takeAlike 171 = .ok (.putfield 35, 3) := by decide +kernel
theorem dX3_takeAlike_174 : decode cX3_takeAlike 174 = .ok (.goto (-88), 3) := by decide +kernel
theorem dX3_takeAlike_177 : decode cX3_takeAlike 177 = .ok (.return_, 1) := by decide +kernel
abbrev rX3_takeAlike : Room := { frames := 0, cells := 0, slots := 0, locals := 0 }
theorem cal_X3_takeAlike : CalOk yX3_takeAlike cX3_takeAlike 6 none 0 := ⟨wm_2_177, wm_1_4, by decide, by decide, by decide +kernel⟩
def f_X3_takeAlike_86 : Nat → Nat → Int32 → Int32 → Int32 → Int32 → Int32 → Mm → Option (Unit × Mm)
  | 0, _, _, _, _, _, _, _ => none
  | n + 1, x0, x1, x2, x3, x4, x5, M =>
    ck (gK M x0 = 3) (ck (gK M x0 = 3) ((if (gI M x0 2) ≤ (gI M x0 6) then
      some ((), M)
    else
      ck (gK M x0 = 3) (bR (gR M x0 0) fun q1 => ck (gK M x0 = 3) (ck (gK M q1 = 10 ∧ inb (gI M x0 6) (gN M q1)) ((if (gI M q1 ((gI M x0 6)).toNatClampNeg) < x1 then
        some ((), M)
      else
        ck (gK M x0 = 3) (bR (gR M x0 0) fun q2 => ck (gK M x0 = 3) (ck (gK M q2 = 10 ∧ inb (gI M x0 6) (gN M q2)) ((if x2 < (gI M q2 ((gI M x0 6)).toNatClampNeg) then
          some ((), M)
        else
          ck (gK M x0 = 3) (ck (gK M x0 = 3) ((if x5 ≤ ((gI M x0 6) - (gI M x0 5)) then
            ck (gK M x0 = 3) (nm (sI M x0 7 (-1 : Int32)) fun M3 =>
            ck (gK M3 x0 = 3) (ck (gK M3 x0 = 3) (nm (sI M3 x0 6 ((gI M3 x0 6) + (1 : Int32))) fun M4 =>
            f_X3_takeAlike_86 n x0 x1 x2 x3 x4 x5 M4)))
          else
            ck (gK M x0 = 3) (ck (gK M x0 = 3) (bR (gR M x0 0) fun q5 => ck (gK M x0 = 3) (ck (gK M q5 = 10 ∧ inb (gI M x0 6) (gN M q5)) (ck (gK M x0 = 3) (nm (sI M x0 7 (((gI M x0 7) * x3) + ((gI M q5 ((gI M x0 6)).toNatClampNeg) - x4))) fun M6 =>
            ck (gK M6 x0 = 3) (ck (gK M6 x0 = 3) (nm (sI M6 x0 6 ((gI M6 x0 6) + (1 : Int32))) fun M7 =>
            f_X3_takeAlike_86 n x0 x1 x2 x3 x4 x5 M7)))))))))))))))))))))
set_option maxRecDepth 20000 in
set_option maxHeartbeats 4000000 in
theorem s_X3_takeAlike_86 {z : Zt} {K : Unit → Mm → Prop} (hz : Good z RX3 cX3_takeAlike 6 rX3_takeAlike none) (hq : Ret z zU K) : ∀ (n : Nat) (x0 : Nat) (x1 : Int32) (x2 : Int32) (x3 : Int32) (x4 : Int32) (x5 : Int32) (M : Mm), Sim z 86 [(0, .ref x0), (1, .int x1), (2, .int x2), (3, .int x3), (4, .int x4), (5, .int x5)] [] M 0 0 (f_X3_takeAlike_86 n x0 x1 x2 x3 x4 x5 M) K := by
  intro n
  induction n with
  | zero => exact fun _ _ _ _ _ _ _ => r_none
  | succ n ih =>
    intro x0 x1 x2 x3 x4 x5 M
    unfold f_X3_takeAlike_86
    refine r_aload_n hz dX3_takeAlike_86 0 rfl ?_
    refine r_getI (j := 6) cl3 hz dX3_takeAlike_87 (by decide) wm_1_204 rfl ?_
    refine r_aload_n hz dX3_takeAlike_90 0 rfl ?_
    refine r_getI (j := 2) cl3 hz dX3_takeAlike_91 (by decide) wm_1_200 rfl ?_
    refine r_icmp_ge (tgt := 177) hz dX3_takeAlike_94 rfl ?_ ?_
    · exact r_vret hz hq dX3_takeAlike_177 (Nat.le_of_ble_eq_true rfl) (Nat.le_of_ble_eq_true rfl)
    · refine r_aload_n hz dX3_takeAlike_97 0 rfl ?_
      refine r_getR (j := 0) cl3 hz dX3_takeAlike_98 (by decide) wm_1_197 rfl (fun q1 => ?_)
      refine r_aload_n hz dX3_takeAlike_101 0 rfl ?_
      refine r_getI (j := 6) cl3 hz dX3_takeAlike_102 (by decide) wm_1_204 rfl ?_
      refine r_iald hz dX3_takeAlike_105 ?_
      refine r_iload_n hz dX3_takeAlike_106 1 rfl ?_
      refine r_icmp_lt (tgt := 177) hz dX3_takeAlike_107 rfl ?_ ?_
      · exact r_vret hz hq dX3_takeAlike_177 (Nat.le_of_ble_eq_true rfl) (Nat.le_of_ble_eq_true rfl)
      · refine r_aload_n hz dX3_takeAlike_110 0 rfl ?_
        refine r_getR (j := 0) cl3 hz dX3_takeAlike_111 (by decide) wm_1_197 rfl (fun q2 => ?_)
        refine r_aload_n hz dX3_takeAlike_114 0 rfl ?_
        refine r_getI (j := 6) cl3 hz dX3_takeAlike_115 (by decide) wm_1_204 rfl ?_
        refine r_iald hz dX3_takeAlike_118 ?_
        refine r_iload_n hz dX3_takeAlike_119 2 rfl ?_
        refine r_icmp_gt (tgt := 177) hz dX3_takeAlike_120 rfl ?_ ?_
        · exact r_vret hz hq dX3_takeAlike_177 (Nat.le_of_ble_eq_true rfl) (Nat.le_of_ble_eq_true rfl)
        · refine r_aload_n hz dX3_takeAlike_123 0 rfl ?_
          refine r_aload_n hz dX3_takeAlike_124 0 rfl ?_
          refine r_getI (j := 6) cl3 hz dX3_takeAlike_125 (by decide) wm_1_204 rfl ?_
          refine r_aload_n hz dX3_takeAlike_128 0 rfl ?_
          refine r_getI (j := 5) cl3 hz dX3_takeAlike_129 (by decide) wm_1_203 rfl ?_
          refine r_isub hz dX3_takeAlike_132 ?_
          refine r_iload hz dX3_takeAlike_133 5 rfl ?_
          refine r_icmp_ge (tgt := 160) hz dX3_takeAlike_135 rfl ?_ ?_
          · refine r_iconst (v := -1) hz dX3_takeAlike_160 rfl ?_
            refine r_putI (j := 7) cl3 hz dX3_takeAlike_161 (by decide) wm_1_205 (Or.inl rfl) rfl rfl rfl ?_
            refine r_nmM (fun M3 => ?_)
            refine r_aload_n hz dX3_takeAlike_164 0 rfl ?_
            refine r_dup hz dX3_takeAlike_165 rfl ?_
            refine r_getI (j := 6) cl3 hz dX3_takeAlike_166 (by decide) wm_1_204 rfl ?_
            refine r_iconst (v := 1) hz dX3_takeAlike_169 rfl ?_
            refine r_iadd hz dX3_takeAlike_170 ?_
            refine r_putI (j := 6) cl3 hz dX3_takeAlike_171 (by decide) wm_1_204 (Or.inl rfl) rfl rfl rfl ?_
            refine r_nmM (fun M4 => ?_)
            refine r_goto (tgt := 86) hz dX3_takeAlike_174 rfl ?_
            exact ih x0 x1 x2 x3 x4 x5 M4
          · refine r_aload_n hz dX3_takeAlike_138 0 rfl ?_
            refine r_getI (j := 7) cl3 hz dX3_takeAlike_139 (by decide) wm_1_205 rfl ?_
            refine r_iload_n hz dX3_takeAlike_142 3 rfl ?_
            refine r_imul hz dX3_takeAlike_143 ?_
            refine r_aload_n hz dX3_takeAlike_144 0 rfl ?_
            refine r_getR (j := 0) cl3 hz dX3_takeAlike_145 (by decide) wm_1_197 rfl (fun q5 => ?_)
            refine r_aload_n hz dX3_takeAlike_148 0 rfl ?_
            refine r_getI (j := 6) cl3 hz dX3_takeAlike_149 (by decide) wm_1_204 rfl ?_
            refine r_iald hz dX3_takeAlike_152 ?_
            refine r_iload hz dX3_takeAlike_153 4 rfl ?_
            refine r_isub hz dX3_takeAlike_155 ?_
            refine r_iadd hz dX3_takeAlike_156 ?_
            refine r_goto (tgt := 161) hz dX3_takeAlike_157 rfl ?_
            refine r_putI (j := 7) cl3 hz dX3_takeAlike_161 (by decide) wm_1_205 (Or.inl rfl) rfl rfl rfl ?_
            refine r_nmM (fun M6 => ?_)
            refine r_aload_n hz dX3_takeAlike_164 0 rfl ?_
            refine r_dup hz dX3_takeAlike_165 rfl ?_
            refine r_getI (j := 6) cl3 hz dX3_takeAlike_166 (by decide) wm_1_204 rfl ?_
            refine r_iconst (v := 1) hz dX3_takeAlike_169 rfl ?_
            refine r_iadd hz dX3_takeAlike_170 ?_
            refine r_putI (j := 6) cl3 hz dX3_takeAlike_171 (by decide) wm_1_204 (Or.inl rfl) rfl rfl rfl ?_
            refine r_nmM (fun M7 => ?_)
            refine r_goto (tgt := 86) hz dX3_takeAlike_174 rfl ?_
            exact ih x0 x1 x2 x3 x4 x5 M7
def f_X3_takeAlike_63 (x0 : Nat) (x1 : Int32) (x2 : Int32) (x3 : Int32) (y0 : Int32) (M : Mm) : Option (Unit × Mm) :=
  ck (gK M x0 = 3) ((if ¬ (gI M x0 4) = (1 : Int32) then
    ck (gK M x0 = 3) (nm (sI M x0 7 (0 : Int32)) fun M1 =>
    f_X3_takeAlike_86 FU x0 x1 x2 x3 y0 (5 : Int32) M1)
  else
    ck (gK M x0 = 3) (nm (sI M x0 7 (0 : Int32)) fun M2 =>
    f_X3_takeAlike_86 FU x0 x1 x2 x3 y0 (6 : Int32) M2)))
set_option maxRecDepth 20000 in
set_option maxHeartbeats 4000000 in
theorem s_X3_takeAlike_63 {z : Zt} {K : Unit → Mm → Prop} (hz : Good z RX3 cX3_takeAlike 6 rX3_takeAlike none) (hq : Ret z zU K) : ∀ (x0 : Nat) (x1 : Int32) (x2 : Int32) (x3 : Int32) (y0 : Int32) (M : Mm), Sim z 63 [(0, .ref x0), (1, .int x1), (2, .int x2), (3, .int x3)] [.int y0] M 0 0 (f_X3_takeAlike_63 x0 x1 x2 x3 y0 M) K := by
  intro x0 x1 x2 x3 y0 M
  unfold f_X3_takeAlike_63
  refine r_istore (lv' := [(4, .int y0), (0, .ref x0), (1, .int x1), (2, .int x2), (3, .int x3)]) hz dX3_takeAlike_63 (by decide) rfl ?_
  refine r_aload_n hz dX3_takeAlike_65 1 rfl ?_
  refine r_getI (j := 4) cl3 hz dX3_takeAlike_66 (by decide) wm_1_202 rfl ?_
  refine r_iconst (v := 1) hz dX3_takeAlike_69 rfl ?_
  refine r_icmp_ne (tgt := 78) hz dX3_takeAlike_70 rfl ?_ ?_
  · refine r_iconst (v := 5) hz dX3_takeAlike_78 rfl ?_
    refine r_istore (lv' := [(5, .int (5 : Int32)), (4, .int y0), (0, .ref x0), (1, .int x1), (2, .int x2), (3, .int x3)]) hz dX3_takeAlike_79 (by decide) rfl ?_
    refine r_aload_n hz dX3_takeAlike_81 2 rfl ?_
    refine r_iconst (v := 0) hz dX3_takeAlike_82 rfl ?_
    refine r_putI (j := 7) cl3 hz dX3_takeAlike_83 (by decide) wm_1_205 (Or.inl rfl) rfl rfl rfl ?_
    refine r_nmM (fun M1 => ?_)
    refine r_sub [2, 3, 4, 5, 1, 0] rfl ?_
    exact s_X3_takeAlike_86 hz hq FU x0 x1 x2 x3 y0 (5 : Int32) M1
  · refine r_bipush (v := 6) hz dX3_takeAlike_73 rfl ?_
    refine r_goto (tgt := 79) hz dX3_takeAlike_75 rfl ?_
    refine r_istore (lv' := [(5, .int (6 : Int32)), (4, .int y0), (0, .ref x0), (1, .int x1), (2, .int x2), (3, .int x3)]) hz dX3_takeAlike_79 (by decide) rfl ?_
    refine r_aload_n hz dX3_takeAlike_81 2 rfl ?_
    refine r_iconst (v := 0) hz dX3_takeAlike_82 rfl ?_
    refine r_putI (j := 7) cl3 hz dX3_takeAlike_83 (by decide) wm_1_205 (Or.inl rfl) rfl rfl rfl ?_
    refine r_nmM (fun M2 => ?_)
    refine r_sub [2, 3, 4, 5, 1, 0] rfl ?_
    exact s_X3_takeAlike_86 hz hq FU x0 x1 x2 x3 y0 (6 : Int32) M2
def f_X3_takeAlike_31 (x0 : Nat) (x1 : Int32) (y0 : Int32) (M : Mm) : Option (Unit × Mm) :=
  ck (gK M x0 = 3) ((if ¬ (gI M x0 4) = (1 : Int32) then
    ck (gK M x0 = 3) ((if ¬ (gI M x0 4) = (1 : Int32) then
      f_X3_takeAlike_63 x0 x1 y0 (10 : Int32) (48 : Int32) M
    else
      f_X3_takeAlike_63 x0 x1 y0 (10 : Int32) (96 : Int32) M))
  else
    ck (gK M x0 = 3) ((if ¬ (gI M x0 4) = (1 : Int32) then
      f_X3_takeAlike_63 x0 x1 y0 (27 : Int32) (48 : Int32) M
    else
      f_X3_takeAlike_63 x0 x1 y0 (27 : Int32) (96 : Int32) M))))
set_option maxRecDepth 20000 in
set_option maxHeartbeats 4000000 in
theorem s_X3_takeAlike_31 {z : Zt} {K : Unit → Mm → Prop} (hz : Good z RX3 cX3_takeAlike 6 rX3_takeAlike none) (hq : Ret z zU K) : ∀ (x0 : Nat) (x1 : Int32) (y0 : Int32) (M : Mm), Sim z 31 [(0, .ref x0), (1, .int x1)] [.int y0] M 0 0 (f_X3_takeAlike_31 x0 x1 y0 M) K := by
  intro x0 x1 y0 M
  unfold f_X3_takeAlike_31
  refine r_istore_n (lv' := [(2, .int y0), (0, .ref x0), (1, .int x1)]) hz dX3_takeAlike_31 (by decide) rfl ?_
  refine r_aload_n hz dX3_takeAlike_32 1 rfl ?_
  refine r_getI (j := 4) cl3 hz dX3_takeAlike_33 (by decide) wm_1_202 rfl ?_
  refine r_iconst (v := 1) hz dX3_takeAlike_36 rfl ?_
  refine r_icmp_ne (tgt := 45) hz dX3_takeAlike_37 rfl ?_ ?_
  · refine r_bipush (v := 10) hz dX3_takeAlike_45 rfl ?_
    refine r_istore_n (lv' := [(3, .int (10 : Int32)), (2, .int y0), (0, .ref x0), (1, .int x1)]) hz dX3_takeAlike_47 (by decide) rfl ?_
    refine r_aload_n hz dX3_takeAlike_48 2 rfl ?_
    refine r_getI (j := 4) cl3 hz dX3_takeAlike_49 (by decide) wm_1_202 rfl ?_
    refine r_iconst (v := 1) hz dX3_takeAlike_52 rfl ?_
    refine r_icmp_ne (tgt := 61) hz dX3_takeAlike_53 rfl ?_ ?_
    · refine r_bipush (v := 48) hz dX3_takeAlike_61 rfl ?_
      refine r_sub [2, 3, 1, 0] rfl ?_
      exact s_X3_takeAlike_63 hz hq x0 x1 y0 (10 : Int32) (48 : Int32) M
    · refine r_bipush (v := 96) hz dX3_takeAlike_56 rfl ?_
      refine r_goto (tgt := 63) hz dX3_takeAlike_58 rfl ?_
      refine r_sub [2, 3, 1, 0] rfl ?_
      exact s_X3_takeAlike_63 hz hq x0 x1 y0 (10 : Int32) (96 : Int32) M
  · refine r_bipush (v := 27) hz dX3_takeAlike_40 rfl ?_
    refine r_goto (tgt := 47) hz dX3_takeAlike_42 rfl ?_
    refine r_istore_n (lv' := [(3, .int (27 : Int32)), (2, .int y0), (0, .ref x0), (1, .int x1)]) hz dX3_takeAlike_47 (by decide) rfl ?_
    refine r_aload_n hz dX3_takeAlike_48 2 rfl ?_
    refine r_getI (j := 4) cl3 hz dX3_takeAlike_49 (by decide) wm_1_202 rfl ?_
    refine r_iconst (v := 1) hz dX3_takeAlike_52 rfl ?_
    refine r_icmp_ne (tgt := 61) hz dX3_takeAlike_53 rfl ?_ ?_
    · refine r_bipush (v := 48) hz dX3_takeAlike_61 rfl ?_
      refine r_sub [2, 3, 1, 0] rfl ?_
      exact s_X3_takeAlike_63 hz hq x0 x1 y0 (27 : Int32) (48 : Int32) M
    · refine r_bipush (v := 96) hz dX3_takeAlike_56 rfl ?_
      refine r_goto (tgt := 63) hz dX3_takeAlike_58 rfl ?_
      refine r_sub [2, 3, 1, 0] rfl ?_
      exact s_X3_takeAlike_63 hz hq x0 x1 y0 (27 : Int32) (96 : Int32) M
def f_X3_takeAlike (p0 : Nat) (M : Mm) : Option (Unit × Mm) :=
  ck (gK M p0 = 3) ((if ¬ (gI M p0 4) = (1 : Int32) then
    ck (gK M p0 = 3) ((if ¬ (gI M p0 4) = (1 : Int32) then
      f_X3_takeAlike_31 p0 (48 : Int32) (57 : Int32) M
    else
      f_X3_takeAlike_31 p0 (48 : Int32) (122 : Int32) M))
  else
    ck (gK M p0 = 3) ((if ¬ (gI M p0 4) = (1 : Int32) then
      f_X3_takeAlike_31 p0 (97 : Int32) (57 : Int32) M
    else
      f_X3_takeAlike_31 p0 (97 : Int32) (122 : Int32) M))))
set_option maxRecDepth 20000 in
set_option maxHeartbeats 4000000 in
theorem t_X3_takeAlike (p0 : Nat) (M : Mm) (x : Unit) (M' : Mm) (h : f_X3_takeAlike p0 M = some (x, M')) : Ctr yX3_takeAlike cX3_takeAlike 6 none rX3_takeAlike (fun _ => [.ref p0]) M (zU x) M' := by
  refine ctr_of (plainFor_of_name (by decide)) (fun _ => Nat.le_of_ble_eq_true rfl) (fun z hz hin hq => ?_)
  have key : Sim z 0 [(0, .ref p0)] [] M 0 0 (f_X3_takeAlike p0 M) (fun a b => a = x ∧ b = M') := by
    have hq : Ret z zU (fun a b => a = x ∧ b = M') := fun a b e => by rw [e.1, e.2]; exact hq
    unfold f_X3_takeAlike
    refine r_aload_n hz dX3_takeAlike_0 0 rfl ?_
    refine r_getI (j := 4) cl3 hz dX3_takeAlike_1 (by decide) wm_1_202 rfl ?_
    refine r_iconst (v := 1) hz dX3_takeAlike_4 rfl ?_
    refine r_icmp_ne (tgt := 13) hz dX3_takeAlike_5 rfl ?_ ?_
    · refine r_bipush (v := 48) hz dX3_takeAlike_13 rfl ?_
      refine r_istore_n (lv' := [(1, .int (48 : Int32)), (0, .ref p0)]) hz dX3_takeAlike_15 (by decide) rfl ?_
      refine r_aload_n hz dX3_takeAlike_16 1 rfl ?_
      refine r_getI (j := 4) cl3 hz dX3_takeAlike_17 (by decide) wm_1_202 rfl ?_
      refine r_iconst (v := 1) hz dX3_takeAlike_20 rfl ?_
      refine r_icmp_ne (tgt := 29) hz dX3_takeAlike_21 rfl ?_ ?_
      · refine r_bipush (v := 57) hz dX3_takeAlike_29 rfl ?_
        refine r_sub [1, 0] rfl ?_
        exact s_X3_takeAlike_31 hz hq p0 (48 : Int32) (57 : Int32) M
      · refine r_bipush (v := 122) hz dX3_takeAlike_24 rfl ?_
        refine r_goto (tgt := 31) hz dX3_takeAlike_26 rfl ?_
        refine r_sub [1, 0] rfl ?_
        exact s_X3_takeAlike_31 hz hq p0 (48 : Int32) (122 : Int32) M
    · refine r_bipush (v := 97) hz dX3_takeAlike_8 rfl ?_
      refine r_goto (tgt := 15) hz dX3_takeAlike_10 rfl ?_
      refine r_istore_n (lv' := [(1, .int (97 : Int32)), (0, .ref p0)]) hz dX3_takeAlike_15 (by decide) rfl ?_
      refine r_aload_n hz dX3_takeAlike_16 1 rfl ?_
      refine r_getI (j := 4) cl3 hz dX3_takeAlike_17 (by decide) wm_1_202 rfl ?_
      refine r_iconst (v := 1) hz dX3_takeAlike_20 rfl ?_
      refine r_icmp_ne (tgt := 29) hz dX3_takeAlike_21 rfl ?_ ?_
      · refine r_bipush (v := 57) hz dX3_takeAlike_29 rfl ?_
        refine r_sub [1, 0] rfl ?_
        exact s_X3_takeAlike_31 hz hq p0 (97 : Int32) (57 : Int32) M
      · refine r_bipush (v := 122) hz dX3_takeAlike_24 rfl ?_
        refine r_goto (tgt := 31) hz dX3_takeAlike_26 rfl ?_
        refine r_sub [1, 0] rfl ?_
        exact s_X3_takeAlike_31 hz hq p0 (97 : Int32) (122 : Int32) M
  exact key x M' h ⟨rfl, rfl⟩
theorem dX3_advance_0 : decode cX3_advance 0 = .ok (.aload_n 0, 1) := by decide +kernel
theorem dX3_advance_1 : decode cX3_advance 1 = .ok (.aload_n 0, 1) := by decide +kernel
theorem dX3_advance_2 : decode cX3_advance 2 = .ok (.getfield 35, 3) := by decide +kernel
theorem dX3_advance_5 : decode cX3_advance 5 = .ok (.putfield 32, 3) := by decide +kernel
theorem dX3_advance_8 : decode cX3_advance 8 = .ok (.aload_n 0, 1) := by decide +kernel
theorem dX3_advance_9 : decode cX3_advance 9 = .ok (.getfield 32, 3) := by decide +kernel
theorem dX3_advance_12 : decode cX3_advance 12 = .ok (.aload_n 0, 1) := by decide +kernel
theorem dX3_advance_13 : decode cX3_advance 13 = .ok (.getfield 19, 3) := by decide +kernel
theorem dX3_advance_16 : decode cX3_advance 16 = .ok (.if_icmp .ge 44, 3) := by decide +kernel
theorem dX3_advance_19 : decode cX3_advance 19 = .ok (.aload_n 0, 1) := by decide +kernel
theorem dX3_advance_20 : decode cX3_advance 20 = .ok (.getfield 9, 3) := by decide +kernel
theorem dX3_advance_23 : decode cX3_advance 23 = .ok (.aload_n 0, 1) := by decide +kernel
theorem dX3_advance_24 : decode cX3_advance 24 = .ok (.getfield 32, 3) := by decide +kernel
theorem dX3_advance_27 : decode cX3_advance 27 = .ok (.iaload, 1) := by decide +kernel
theorem dX3_advance_28 : decode cX3_advance 28 = .ok (.bipush 32, 2) := by decide +kernel
theorem dX3_advance_30 : decode cX3_advance 30 = .ok (.if_icmp .eq 17, 3) := by decide +kernel
theorem dX3_advance_33 : decode cX3_advance 33 = .ok (.aload_n 0, 1) := by decide +kernel
theorem dX3_advance_34 : decode cX3_advance 34 = .ok (.getfield 9, 3) := by decide +kernel
theorem dX3_advance_37 : decode cX3_advance 37 = .ok (.aload_n 0, 1) := by decide +kernel
theorem dX3_advance_38 : decode cX3_advance 38 = .ok (.getfield 32, 3) := by decide +kernel
theorem dX3_advance_41 : decode cX3_advance 41 = .ok (.iaload, 1) := by decide +kernel
theorem dX3_advance_42 : decode cX3_advance 42 = .ok (.bipush 10, 2) := by decide +kernel
theorem dX3_advance_44 : decode cX3_advance 44 = .ok (.if_icmp .ne 16, 3) := by decide +kernel
theorem dX3_advance_47 : decode cX3_advance 47 = .ok (.aload_n 0, 1) := by decide +kernel
theorem dX3_advance_48 : decode cX3_advance 48 = .ok (.dup, 1) := by decide +kernel
theorem dX3_advance_49 : decode cX3_advance 49 = .ok (.getfield 32, 3) := by decide +kernel
theorem dX3_advance_52 : decode cX3_advance 52 = .ok (.iconst 1, 1) := by decide +kernel
theorem dX3_advance_53 : decode cX3_advance 53 = .ok (.iadd, 1) := by decide +kernel
theorem dX3_advance_54 : decode cX3_advance 54 = .ok (.putfield 32, 3) := by decide +kernel
theorem dX3_advance_57 : decode cX3_advance 57 = .ok (.goto (-49), 3) := by decide +kernel
theorem dX3_advance_60 : decode cX3_advance 60 = .ok (.aload_n 0, 1) := by decide +kernel
theorem dX3_advance_61 : decode cX3_advance 61 = .ok (.aload_n 0, 1) := by decide +kernel
theorem dX3_advance_62 : decode cX3_advance 62 = .ok (.getfield 32, 3) := by decide +kernel
theorem dX3_advance_65 : decode cX3_advance 65 = .ok (.putfield 35, 3) := by decide +kernel
theorem dX3_advance_68 : decode cX3_advance 68 = .ok (.aload_n 0, 1) := by decide +kernel
theorem dX3_advance_69 : decode cX3_advance 69 = .ok (.aload_n 0, 1) := by decide +kernel
theorem dX3_advance_70 : decode cX3_advance 70 = .ok (.getfield 32, 3) := by decide +kernel
theorem dX3_advance_73 : decode cX3_advance 73 = .ok (.aload_n 0, 1) := by decide +kernel
theorem dX3_advance_74 : decode cX3_advance 74 = .ok (.getfield 19, 3) := by decide +kernel
theorem dX3_advance_77 : decode cX3_advance 77 = .ok (.if_icmp .ge 18, 3) := by decide +kernel
theorem dX3_advance_80 : decode cX3_advance 80 = .ok (.aload_n 0, 1) := by decide +kernel
theorem dX3_advance_81 : decode cX3_advance 81 = .ok (.getfield 9, 3) := by decide +kernel
theorem dX3_advance_84 : decode cX3_advance 84 = .ok (.aload_n 0, 1) := by decide +kernel
theorem dX3_advance_85 : decode cX3_advance 85 = .ok (.getfield 32, 3) := by decide +kernel
theorem dX3_advance_88 : decode cX3_advance 88 = .ok (.iaload, 1) := by decide +kernel
theorem dX3_advance_89 : decode cX3_advance 89 = .ok (.invokestatic 221, 3) := by decide +kernel
theorem dX3_advance_92 : decode cX3_advance 92 = .ok (.goto 4, 3) := by decide +kernel
theorem dX3_advance_95 : decode cX3_advance 95 = .ok (.iconst 0, 1) := by decide +kernel
theorem dX3_advance_96 : decode cX3_advance 96 = .ok (.putfield 29, 3) := by decide +kernel
theorem dX3_advance_99 : decode cX3_advance 99 = .ok (.aload_n 0, 1) := by decide +kernel
theorem dX3_advance_100 : decode cX3_advance 100 = .ok (.getfield 29, 3) := by decide +kernel
theorem dX3_advance_103 : decode cX3_advance 103 = .ok (.iconst 3, 1) := by decide +kernel
theorem dX3_advance_104 : decode cX3_advance 104 = .ok (.if_icmp .ne 16, 3) := by decide +kernel
theorem dX3_advance_107 : decode cX3_advance 107 = .ok (.aload_n 0, 1) := by decide +kernel
theorem dX3_advance_108 : decode cX3_advance 108 = .ok (.aload_n 0, 1) := by decide +kernel
theorem dX3_advance_109 : decode cX3_advance 109 = .ok (.getfield 32, 3) := by decide +kernel
theorem dX3_advance_112 : decode cX3_advance 112 = .ok (.iconst 1, 1) := by decide +kernel
theorem dX3_advance_113 : decode cX3_advance 113 = .ok (.iadd, 1) := by decide +kernel
theorem dX3_advance_114 : decode cX3_advance 114 = .ok (.putfield 35, 3) := by decide +kernel
theorem dX3_advance_117 : decode cX3_advance 117 = .ok (.goto 14, 3) := by decide +kernel
theorem dX3_advance_120 : decode cX3_advance 120 = .ok (.aload_n 0, 1) := by decide +kernel
theorem dX3_advance_121 : decode cX3_advance 121 = .ok (.getfield 29, 3) := by decide +kernel
theorem dX3_advance_124 : decode cX3_advance 124 = .ok (.ifCond .eq 7, 3) := by decide +kernel
theorem dX3_advance_127 : decode cX3_advance 127 = .ok (.aload_n 0, 1) := by decide +kernel
theorem dX3_advance_128 : decode cX3_advance 128 = .ok (.invokevirtual 224, 3) := by decide +kernel
theorem dX3_advance_131 : decode cX3_advance 131 = .ok (.return_, 1) := by decide +kernel
abbrev rX3_advance : Room := { frames := 1, cells := 0, slots := 0, locals := 25 }
theorem cal_X3_advance : CalOk yX3_advance cX3_advance 1 none 0 := ⟨wm_2_170, wm_1_4, by decide, by decide, by decide +kernel⟩
def f_X3_advance_96 (x0 : Nat) (y0 : Int32) (y1 : Nat) (M : Mm) : Option (Unit × Mm) :=
  ck (gK M y1 = 3) (nm (sI M y1 4 y0) fun M1 =>
  ck (gK M1 x0 = 3) ((if ¬ (gI M1 x0 4) = (3 : Int32) then
    ck (gK M1 x0 = 3) ((if (gI M1 x0 4) = 0 then
      some ((), M1)
    else
      ck (gK M1 x0 = 3) (bd (f_X3_takeAlike x0 M1) fun _ M2 =>
      some ((), M2))))
  else
    ck (gK M1 x0 = 3) (ck (gK M1 x0 = 3) (nm (sI M1 x0 6 ((gI M1 x0 5) + (1 : Int32))) fun M3 =>
    some ((), M3))))))
set_option maxRecDepth 20000 in
set_option maxHeartbeats 4000000 in
theorem s_X3_advance_96 {z : Zt} {K : Unit → Mm → Prop} (hz : Good z RX3 cX3_advance 1 rX3_advance none) (hq : Ret z zU K) : ∀ (x0 : Nat) (y0 : Int32) (y1 : Nat) (M : Mm), Sim z 96 [(0, .ref x0)] [.int y0, .ref y1] M 0 0 (f_X3_advance_96 x0 y0 y1 M) K := by
  intro x0 y0 y1 M
  unfold f_X3_advance_96
  refine r_putI (j := 4) cl3 hz dX3_advance_96 (by decide) wm_1_202 (Or.inl rfl) rfl rfl rfl ?_
  refine r_nmM (fun M1 => ?_)
  refine r_aload_n hz dX3_advance_99 0 rfl ?_
  refine r_getI (j := 4) cl3 hz dX3_advance_100 (by decide) wm_1_202 rfl ?_
  refine r_iconst (v := 3) hz dX3_advance_103 rfl ?_
  refine r_icmp_ne (tgt := 120) hz dX3_advance_104 rfl ?_ ?_
  · refine r_aload_n hz dX3_advance_120 0 rfl ?_
    refine r_getI (j := 4) cl3 hz dX3_advance_121 (by decide) wm_1_202 rfl ?_
    refine r_if_eq (tgt := 131) hz dX3_advance_124 rfl ?_ ?_
    · exact r_vret hz hq dX3_advance_131 (Nat.le_of_ble_eq_true rfl) (Nat.le_of_ble_eq_true rfl)
    · refine r_aload_n hz dX3_advance_127 0 rfl ?_
      refine r_callVv (As := fun _ => []) cl3 hz (fun _ _ h => t_X3_takeAlike _ _ _ _ h) cal_X3_takeAlike dX3_advance_128 wm_2_174 wm_2_176 wm_p_1 rfl rfl (Nat.le_of_ble_eq_true rfl) ⟨(Nat.le_of_ble_eq_true rfl), (Nat.le_of_ble_eq_true rfl)⟩ ⟨(Nat.le_of_ble_eq_true rfl), (Nat.le_of_ble_eq_true rfl)⟩ (fun _ M2 => ?_)
      exact r_vret hz hq dX3_advance_131 (Nat.le_of_ble_eq_true rfl) (Nat.le_of_ble_eq_true rfl)
  · refine r_aload_n hz dX3_advance_107 0 rfl ?_
    refine r_aload_n hz dX3_advance_108 0 rfl ?_
    refine r_getI (j := 5) cl3 hz dX3_advance_109 (by decide) wm_1_203 rfl ?_
    refine r_iconst (v := 1) hz dX3_advance_112 rfl ?_
    refine r_iadd hz dX3_advance_113 ?_
    refine r_putI (j := 6) cl3 hz dX3_advance_114 (by decide) wm_1_204 (Or.inl rfl) rfl rfl rfl ?_
    refine r_nmM (fun M3 => ?_)
    refine r_goto (tgt := 131) hz dX3_advance_117 rfl ?_
    exact r_vret hz hq dX3_advance_131 (Nat.le_of_ble_eq_true rfl) (Nat.le_of_ble_eq_true rfl)
def f_X3_advance_60 (x0 : Nat) (M : Mm) : Option (Unit × Mm) :=
  ck (gK M x0 = 3) (ck (gK M x0 = 3) (nm (sI M x0 6 (gI M x0 5)) fun M1 =>
  ck (gK M1 x0 = 3) (ck (gK M1 x0 = 3) ((if (gI M1 x0 2) ≤ (gI M1 x0 5) then
    f_X3_advance_96 x0 (0 : Int32) x0 M1
  else
    ck (gK M1 x0 = 3) (bR (gR M1 x0 0) fun q2 => ck (gK M1 x0 = 3) (ck (gK M1 q2 = 10 ∧ inb (gI M1 x0 5) (gN M1 q2)) (bd (f_X3_kindOf (gI M1 q2 ((gI M1 x0 5)).toNatClampNeg) M1) fun v4 M3 =>
    f_X3_advance_96 x0 v4 x0 M3))))))))
set_option maxRecDepth 20000 in
set_option maxHeartbeats 4000000 in
theorem s_X3_advance_60 {z : Zt} {K : Unit → Mm → Prop} (hz : Good z RX3 cX3_advance 1 rX3_advance none) (hq : Ret z zU K) : ∀ (x0 : Nat) (M : Mm), Sim z 60 [(0, .ref x0)] [] M 0 0 (f_X3_advance_60 x0 M) K := by
  intro x0 M
  unfold f_X3_advance_60
  refine r_aload_n hz dX3_advance_60 0 rfl ?_
  refine r_aload_n hz dX3_advance_61 0 rfl ?_
  refine r_getI (j := 5) cl3 hz dX3_advance_62 (by decide) wm_1_203 rfl ?_
  refine r_putI (j := 6) cl3 hz dX3_advance_65 (by decide) wm_1_204 (Or.inl rfl) rfl rfl rfl ?_
  refine r_nmM (fun M1 => ?_)
  refine r_aload_n hz dX3_advance_68 0 rfl ?_
  refine r_aload_n hz dX3_advance_69 0 rfl ?_
  refine r_getI (j := 5) cl3 hz dX3_advance_70 (by decide) wm_1_203 rfl ?_
  refine r_aload_n hz dX3_advance_73 0 rfl ?_
  refine r_getI (j := 2) cl3 hz dX3_advance_74 (by decide) wm_1_200 rfl ?_
  refine r_icmp_ge (tgt := 95) hz dX3_advance_77 rfl ?_ ?_
  · refine r_iconst (v := 0) hz dX3_advance_95 rfl ?_
    exact s_X3_advance_96 hz hq x0 (0 : Int32) x0 M1
  · refine r_aload_n hz dX3_advance_80 0 rfl ?_
    refine r_getR (j := 0) cl3 hz dX3_advance_81 (by decide) wm_1_197 rfl (fun q2 => ?_)
    refine r_aload_n hz dX3_advance_84 0 rfl ?_
    refine r_getI (j := 5) cl3 hz dX3_advance_85 (by decide) wm_1_203 rfl ?_
    refine r_iald hz dX3_advance_88 ?_
    refine r_callSi (As := fun _ => [.int (gI M1 q2 ((gI M1 x0 5)).toNatClampNeg)]) hz (fun _ _ h => t_X3_kindOf _ _ _ _ h) cal_X3_kindOf dX3_advance_89 wm_2_171 wm_2_172 rfl rfl (Nat.le_of_ble_eq_true rfl) ⟨(Nat.le_of_ble_eq_true rfl), (Nat.le_of_ble_eq_true rfl)⟩ ⟨(Nat.le_of_ble_eq_true rfl), (Nat.le_of_ble_eq_true rfl)⟩ (fun v4 M3 => ?_)
    refine r_goto (tgt := 96) hz dX3_advance_92 rfl ?_
    exact s_X3_advance_96 hz hq x0 v4 x0 M3
def f_X3_advance_8 : Nat → Nat → Mm → Option (Unit × Mm)
  | 0, _, _ => none
  | n + 1, x0, M =>
    ck (gK M x0 = 3) (ck (gK M x0 = 3) ((if (gI M x0 2) ≤ (gI M x0 5) then
      f_X3_advance_60 x0 M
    else
      ck (gK M x0 = 3) (bR (gR M x0 0) fun q1 => ck (gK M x0 = 3) (ck (gK M q1 = 10 ∧ inb (gI M x0 5) (gN M q1)) ((if (gI M q1 ((gI M x0 5)).toNatClampNeg) = (32 : Int32) then
        ck (gK M x0 = 3) (ck (gK M x0 = 3) (nm (sI M x0 5 ((gI M x0 5) + (1 : Int32))) fun M2 =>
        f_X3_advance_8 n x0 M2))
      else
        ck (gK M x0 = 3) (bR (gR M x0 0) fun q3 => ck (gK M x0 = 3) (ck (gK M q3 = 10 ∧ inb (gI M x0 5) (gN M q3)) ((if ¬ (gI M q3 ((gI M x0 5)).toNatClampNeg) = (10 : Int32) then
          f_X3_advance_60 x0 M
        else
          ck (gK M x0 = 3) (ck (gK M x0 = 3) (nm (sI M x0 5 ((gI M x0 5) + (1 : Int32))) fun M4 =>
          f_X3_advance_8 n x0 M4)))))))))))))
set_option maxRecDepth 20000 in
set_option maxHeartbeats 4000000 in
theorem s_X3_advance_8 {z : Zt} {K : Unit → Mm → Prop} (hz : Good z RX3 cX3_advance 1 rX3_advance none) (hq : Ret z zU K) : ∀ (n : Nat) (x0 : Nat) (M : Mm), Sim z 8 [(0, .ref x0)] [] M 0 0 (f_X3_advance_8 n x0 M) K := by
  intro n
  induction n with
  | zero => exact fun _ _ => r_none
  | succ n ih =>
    intro x0 M
    unfold f_X3_advance_8
    refine r_aload_n hz dX3_advance_8 0 rfl ?_
    refine r_getI (j := 5) cl3 hz dX3_advance_9 (by decide) wm_1_203 rfl ?_
    refine r_aload_n hz dX3_advance_12 0 rfl ?_
    refine r_getI (j := 2) cl3 hz dX3_advance_13 (by decide) wm_1_200 rfl ?_
    refine r_icmp_ge (tgt := 60) hz dX3_advance_16 rfl ?_ ?_
    · exact s_X3_advance_60 hz hq x0 M
    · refine r_aload_n hz dX3_advance_19 0 rfl ?_
      refine r_getR (j := 0) cl3 hz dX3_advance_20 (by decide) wm_1_197 rfl (fun q1 => ?_)
      refine r_aload_n hz dX3_advance_23 0 rfl ?_
      refine r_getI (j := 5) cl3 hz dX3_advance_24 (by decide) wm_1_203 rfl ?_
      refine r_iald hz dX3_advance_27 ?_
      refine r_bipush (v := 32) hz dX3_advance_28 rfl ?_
      refine r_icmp_eq (tgt := 47) hz dX3_advance_30 rfl ?_ ?_
      · refine r_aload_n hz dX3_advance_47 0 rfl ?_
        refine r_dup hz dX3_advance_48 rfl ?_
        refine r_getI (j := 5) cl3 hz dX3_advance_49 (by decide) wm_1_203 rfl ?_
        refine r_iconst (v := 1) hz dX3_advance_52 rfl ?_
        refine r_iadd hz dX3_advance_53 ?_
        refine r_putI (j := 5) cl3 hz dX3_advance_54 (by decide) wm_1_203 (Or.inl rfl) rfl rfl rfl ?_
        refine r_nmM (fun M2 => ?_)
        refine r_goto (tgt := 8) hz dX3_advance_57 rfl ?_
        exact ih x0 M2
      · refine r_aload_n hz dX3_advance_33 0 rfl ?_
        refine r_getR (j := 0) cl3 hz dX3_advance_34 (by decide) wm_1_197 rfl (fun q3 => ?_)
        refine r_aload_n hz dX3_advance_37 0 rfl ?_
        refine r_getI (j := 5) cl3 hz dX3_advance_38 (by decide) wm_1_203 rfl ?_
        refine r_iald hz dX3_advance_41 ?_
        refine r_bipush (v := 10) hz dX3_advance_42 rfl ?_
        refine r_icmp_ne (tgt := 60) hz dX3_advance_44 rfl ?_ ?_
        · exact s_X3_advance_60 hz hq x0 M
        · refine r_aload_n hz dX3_advance_47 0 rfl ?_
          refine r_dup hz dX3_advance_48 rfl ?_
          refine r_getI (j := 5) cl3 hz dX3_advance_49 (by decide) wm_1_203 rfl ?_
          refine r_iconst (v := 1) hz dX3_advance_52 rfl ?_
          refine r_iadd hz dX3_advance_53 ?_
          refine r_putI (j := 5) cl3 hz dX3_advance_54 (by decide) wm_1_203 (Or.inl rfl) rfl rfl rfl ?_
          refine r_nmM (fun M4 => ?_)
          refine r_goto (tgt := 8) hz dX3_advance_57 rfl ?_
          exact ih x0 M4
def f_X3_advance (p0 : Nat) (M : Mm) : Option (Unit × Mm) :=
  ck (gK M p0 = 3) (ck (gK M p0 = 3) (nm (sI M p0 5 (gI M p0 6)) fun M1 =>
  f_X3_advance_8 FU p0 M1))
set_option maxRecDepth 20000 in
set_option maxHeartbeats 4000000 in
theorem t_X3_advance (p0 : Nat) (M : Mm) (x : Unit) (M' : Mm) (h : f_X3_advance p0 M = some (x, M')) : Ctr yX3_advance cX3_advance 1 none rX3_advance (fun _ => [.ref p0]) M (zU x) M' := by
  refine ctr_of (plainFor_of_name (by decide)) (fun _ => Nat.le_of_ble_eq_true rfl) (fun z hz hin hq => ?_)
  have key : Sim z 0 [(0, .ref p0)] [] M 0 0 (f_X3_advance p0 M) (fun a b => a = x ∧ b = M') := by
    have hq : Ret z zU (fun a b => a = x ∧ b = M') := fun a b e => by rw [e.1, e.2]; exact hq
    unfold f_X3_advance
    refine r_aload_n hz dX3_advance_0 0 rfl ?_
    refine r_aload_n hz dX3_advance_1 0 rfl ?_
    refine r_getI (j := 6) cl3 hz dX3_advance_2 (by decide) wm_1_204 rfl ?_
    refine r_putI (j := 5) cl3 hz dX3_advance_5 (by decide) wm_1_203 (Or.inl rfl) rfl rfl rfl ?_
    refine r_nmM (fun M1 => ?_)
    exact s_X3_advance_8 hz hq FU p0 M1
  exact key x M' h ⟨rfl, rfl⟩
theorem dX3_spells_0 : decode cX3_spells 0 = .ok (.aload_n 0, 1) := by decide +kernel
theorem dX3_spells_1 : decode cX3_spells 1 = .ok (.getfield 29, 3) := by decide +kernel
theorem dX3_spells_4 : decode cX3_spells 4 = .ok (.iconst 1, 1) := by decide +kernel
theorem dX3_spells_5 : decode cX3_spells 5 = .ok (.if_icmp .ne 19, 3) := by decide +kernel
theorem dX3_spells_8 : decode cX3_spells 8 = .ok (.aload_n 0, 1) := by decide +kernel
theorem dX3_spells_9 : decode cX3_spells 9 = .ok (.getfield 35, 3) := by decide +kernel
theorem dX3_spells_12 : decode cX3_spells 12 = .ok (.aload_n 0, 1) := by decide +kernel
theorem dX3_spells_13 : decode cX3_spells 13 = .ok (.getfield 32, 3) := by decide +kernel
theorem dX3_spells_16 : decode cX3_spells 16 = .ok (.isub, 1) := by decide +kernel
theorem dX3_spells_17 : decode cX3_spells 17 = .ok (.aload_n 1, 1) := by decide +kernel
theorem dX3_spells_18 : decode cX3_spells 18 = .ok (.invokevirtual 213, 3) := by decide +kernel
theorem dX3_spells_21 : decode cX3_spells 21 = .ok (.if_icmp .eq 5, 3) := by decide +kernel
theorem dX3_spells_24 : decode cX3_spells 24 = .ok (.iconst 0, 1) := by decide +kernel
theorem dX3_spells_25 : decode cX3_spells 25 = .ok (.ireturn, 1) := by decide +kernel
theorem dX3_spells_26 : decode cX3_spells 26 = .ok (.iconst 0, 1) := by decide +kernel
theorem dX3_spells_27 : decode cX3_spells 27 = .ok (.istore_n 2, 1) := by decide +kernel
theorem dX3_spells_28 : decode cX3_spells 28 = .ok (.iload_n 2, 1) := by decide +kernel
theorem dX3_spells_29 : decode cX3_spells 29 = .ok (.aload_n 1, 1) := by decide +kernel
theorem dX3_spells_30 : decode cX3_spells 30 = .ok (.invokevirtual 213, 3) := by decide +kernel
theorem dX3_spells_33 : decode cX3_spells 33 = .ok (.if_icmp .ge 30, 3) := by decide +kernel
theorem dX3_spells_36 : decode cX3_spells 36 = .ok (.aload_n 0, 1) := by decide +kernel
theorem dX3_spells_37 : decode cX3_spells 37 = .ok (.getfield 9, 3) := by decide +kernel
theorem dX3_spells_40 : decode cX3_spells 40 = .ok (.aload_n 0, 1) := by decide +kernel
theorem dX3_spells_41 : decode cX3_spells 41 = .ok (.getfield 32, 3) := by decide +kernel
theorem dX3_spells_44 : decode cX3_spells 44 = .ok (.iload_n 2, 1) := by decide +kernel
theorem dX3_spells_45 : decode cX3_spells 45 = .ok (.iadd, 1) := by decide +kernel
theorem dX3_spells_46 : decode cX3_spells 46 = .ok (.iaload, 1) := by decide +kernel
theorem dX3_spells_47 : decode cX3_spells 47 = .ok (.aload_n 1, 1) := by decide +kernel
theorem dX3_spells_48 : decode cX3_spells 48 = .ok (.iload_n 2, 1) := by decide +kernel
theorem dX3_spells_49 : decode cX3_spells 49 = .ok (.invokevirtual 217, 3) := by decide +kernel
theorem dX3_spells_52 : decode cX3_spells 52 = .ok (.if_icmp .eq 5, 3) := by decide +kernel
theorem dX3_spells_55 : decode cX3_spells 55 = .ok (.iconst 0, 1) := by decide +kernel
theorem dX3_spells_56 : decode cX3_spells 56 = .ok (.ireturn, 1) := by decide +kernel
theorem dX3_spells_57 : decode cX3_spells 57 = .ok (.iinc 2 1, 3) := by decide +kernel
theorem dX3_spells_60 : decode cX3_spells 60 = .ok (.goto (-32), 3) := by decide +kernel
theorem dX3_spells_63 : decode cX3_spells 63 = .ok (.iconst 1, 1) := by decide +kernel
theorem dX3_spells_64 : decode cX3_spells 64 = .ok (.ireturn, 1) := by decide +kernel
abbrev rX3_spells : Room := { frames := 6, cells := 0, slots := 0, locals := 151 }
theorem cal_X3_spells : CalOk yX3_spells cX3_spells 3 (some .boolean) 1 := ⟨wm_2_182, wm_1_4, by decide, by decide, by decide +kernel⟩
def f_X3_spells_28 : Nat → Nat → Nat → Int32 → Mm → Option (Int32 × Mm)
  | 0, _, _, _, _ => none
  | n + 1, x0, x1, x2, M =>
    ck (x1 < 16) (bd (f_J0_length_8abf5 x1 M) fun v2 M1 =>
    (if v2 ≤ x2 then
      some ((1 : Int32), M1)
    else
      ck (gK M1 x0 = 3) (bR (gR M1 x0 0) fun q3 => ck (gK M1 x0 = 3) (ck (gK M1 q3 = 10 ∧ inb ((gI M1 x0 5) + x2) (gN M1 q3)) (ck (x1 < 16) (bd (f_J0_charAt_5068e x1 x2 M1) fun v5 M4 =>
      (if (gI M1 q3 (((gI M1 x0 5) + x2)).toNatClampNeg) = v5 then
        f_X3_spells_28 n x0 x1 (x2 + (1 : Int32)) M4
      else
        some ((0 : Int32), M4))))))))
set_option maxRecDepth 20000 in
set_option maxHeartbeats 4000000 in
theorem s_X3_spells_28 {z : Zt} {K : Int32 → Mm → Prop} (hz : Good z RX3 cX3_spells 3 rX3_spells (some .boolean)) (hq : Ret z zI K) : ∀ (n : Nat) (x0 : Nat) (x1 : Nat) (x2 : Int32) (M : Mm), Sim z 28 [(0, .ref x0), (1, .ref (zS z x1)), (2, .int x2)] [] M 0 0 (f_X3_spells_28 n x0 x1 x2 M) K := by
  intro n
  induction n with
  | zero => exact fun _ _ _ _ => r_none
  | succ n ih =>
    intro x0 x1 x2 M
    unfold f_X3_spells_28
    refine r_iload_n hz dX3_spells_28 2 rfl ?_
    refine r_aload_n hz dX3_spells_29 1 rfl ?_
    refine r_callVs (As := fun _ => []) (j := x1) hz (fun _ _ h => t_J0_length_8abf5 _ _ _ _ h) cal_J0_length_8abf5 dX3_spells_30 wm_2_183 wm_2_184 wm_2_185 rfl rfl (Nat.le_of_ble_eq_true rfl) ⟨(Nat.le_of_ble_eq_true rfl), (Nat.le_of_ble_eq_true rfl)⟩ ⟨(Nat.le_of_ble_eq_true rfl), (Nat.le_of_ble_eq_true rfl)⟩ (fun v2 M1 => ?_)
    refine r_icmp_ge (tgt := 63) hz dX3_spells_33 rfl ?_ ?_
    · refine r_iconst (v := 1) hz dX3_spells_63 rfl ?_
      exact r_zret hz hq dX3_spells_64 (Or.inr rfl) (Nat.le_of_ble_eq_true rfl) (Nat.le_of_ble_eq_true rfl)
    · refine r_aload_n hz dX3_spells_36 0 rfl ?_
      refine r_getR (j := 0) cl3 hz dX3_spells_37 (by decide) wm_1_197 rfl (fun q3 => ?_)
      refine r_aload_n hz dX3_spells_40 0 rfl ?_
      refine r_getI (j := 5) cl3 hz dX3_spells_41 (by decide) wm_1_203 rfl ?_
      refine r_iload_n hz dX3_spells_44 2 rfl ?_
      refine r_iadd hz dX3_spells_45 ?_
      refine r_iald hz dX3_spells_46 ?_
      refine r_aload_n hz dX3_spells_47 1 rfl ?_
      refine r_iload_n hz dX3_spells_48 2 rfl ?_
      refine r_callVs (As := fun _ => [.int x2]) (j := x1) hz (fun _ _ h => t_J0_charAt_5068e _ _ _ _ _ h) cal_J0_charAt_5068e dX3_spells_49 wm_2_193 wm_2_194 wm_2_195 rfl rfl (Nat.le_of_ble_eq_true rfl) ⟨(Nat.le_of_ble_eq_true rfl), (Nat.le_of_ble_eq_true rfl)⟩ ⟨(Nat.le_of_ble_eq_true rfl), (Nat.le_of_ble_eq_true rfl)⟩ (fun v5 M4 => ?_)
      refine r_icmp_eq (tgt := 57) hz dX3_spells_52 rfl ?_ ?_
      · refine r_iinc (v := (x2 + (1 : Int32))) (lv' := [(2, .int (x2 + (1 : Int32))), (0, .ref x0), (1, .ref (zS z x1))]) hz dX3_spells_57 2 rfl rfl (by decide) rfl ?_
        refine r_goto (tgt := 28) hz dX3_spells_60 rfl ?_
        refine r_sub [1, 2, 0] rfl ?_
        exact ih x0 x1 (x2 + (1 : Int32)) M4
      · refine r_iconst (v := 0) hz dX3_spells_55 rfl ?_
        exact r_zret hz hq dX3_spells_56 (Or.inl rfl) (Nat.le_of_ble_eq_true rfl) (Nat.le_of_ble_eq_true rfl)
def f_X3_spells (p0 : Nat) (p1 : Nat) (M : Mm) : Option (Int32 × Mm) :=
  ck (gK M p0 = 3) ((if ¬ (gI M p0 4) = (1 : Int32) then
    some ((0 : Int32), M)
  else
    ck (gK M p0 = 3) (ck (gK M p0 = 3) (ck (p1 < 16) (bd (f_J0_length_8abf5 p1 M) fun v2 M1 =>
    (if ((gI M p0 6) - (gI M p0 5)) = v2 then
      f_X3_spells_28 FU p0 p1 (0 : Int32) M1
    else
      some ((0 : Int32), M1)))))))
set_option maxRecDepth 20000 in
set_option maxHeartbeats 4000000 in
theorem t_X3_spells (p0 : Nat) (p1 : Nat) (M : Mm) (x : Int32) (M' : Mm) (h : f_X3_spells p0 p1 M = some (x, M')) : Ctr yX3_spells cX3_spells 3 (some .boolean) rX3_spells (fun g => [.ref p0, .ref (g.2.2.2.1 p1)]) M (zI x) M' := by
  refine ctr_of (plainFor_of_name (by decide)) (fun _ => Nat.le_of_ble_eq_true rfl) (fun z hz hin hq => ?_)
  have key : Sim z 0 [(0, .ref p0), (1, .ref (zS z p1))] [] M 0 0 (f_X3_spells p0 p1 M) (fun a b => a = x ∧ b = M') := by
    have hq : Ret z zI (fun a b => a = x ∧ b = M') := fun a b e => by rw [e.1, e.2]; exact hq
    unfold f_X3_spells
    refine r_aload_n hz dX3_spells_0 0 rfl ?_
    refine r_getI (j := 4) cl3 hz dX3_spells_1 (by decide) wm_1_202 rfl ?_
    refine r_iconst (v := 1) hz dX3_spells_4 rfl ?_
    refine r_icmp_ne (tgt := 24) hz dX3_spells_5 rfl ?_ ?_
    · refine r_iconst (v := 0) hz dX3_spells_24 rfl ?_
      exact r_zret hz hq dX3_spells_25 (Or.inl rfl) (Nat.le_of_ble_eq_true rfl) (Nat.le_of_ble_eq_true rfl)
    · refine r_aload_n hz dX3_spells_8 0 rfl ?_
      refine r_getI (j := 6) cl3 hz dX3_spells_9 (by decide) wm_1_204 rfl ?_
      refine r_aload_n hz dX3_spells_12 0 rfl ?_
      refine r_getI (j := 5) cl3 hz dX3_spells_13 (by decide) wm_1_203 rfl ?_
      refine r_isub hz dX3_spells_16 ?_
      refine r_aload_n hz dX3_spells_17 1 rfl ?_
      refine r_callVs (As := fun _ => []) (j := p1) hz (fun _ _ h => t_J0_length_8abf5 _ _ _ _ h) cal_J0_length_8abf5 dX3_spells_18 wm_2_183 wm_2_184 wm_2_185 rfl rfl (Nat.le_of_ble_eq_true rfl) ⟨(Nat.le_of_ble_eq_true rfl), (Nat.le_of_ble_eq_true rfl)⟩ ⟨(Nat.le_of_ble_eq_true rfl), (Nat.le_of_ble_eq_true rfl)⟩ (fun v2 M1 => ?_)
      refine r_icmp_eq (tgt := 26) hz dX3_spells_21 rfl ?_ ?_
      · refine r_iconst (v := 0) hz dX3_spells_26 rfl ?_
        refine r_istore_n (lv' := [(2, .int (0 : Int32)), (0, .ref p0), (1, .ref (zS z p1))]) hz dX3_spells_27 (by decide) rfl ?_
        refine r_sub [1, 2, 0] rfl ?_
        exact s_X3_spells_28 hz hq FU p0 p1 (0 : Int32) M1
      · refine r_iconst (v := 0) hz dX3_spells_24 rfl ?_
        exact r_zret hz hq dX3_spells_25 (Or.inl rfl) (Nat.le_of_ble_eq_true rfl) (Nat.le_of_ble_eq_true rfl)
  exact key x M' h ⟨rfl, rfl⟩
theorem dX3_refuse_0 : decode cX3_refuse 0 = .ok (.aload_n 0, 1) := by decide +kernel
theorem dX3_refuse_1 : decode cX3_refuse 1 = .ok (.bipush 8, 2) := by decide +kernel
theorem dX3_refuse_3 : decode cX3_refuse 3 = .ok (.aload_n 0, 1) := by decide +kernel
theorem dX3_refuse_4 : decode cX3_refuse 4 = .ok (.getfield 32, 3) := by decide +kernel
theorem dX3_refuse_7 : decode cX3_refuse 7 = .ok (.imul, 1) := by decide +kernel
theorem dX3_refuse_8 : decode cX3_refuse 8 = .ok (.iload_n 1, 1) := by decide +kernel
theorem dX3_refuse_9 : decode cX3_refuse 9 = .ok (.iadd, 1) := by decide +kernel
theorem dX3_refuse_10 : decode cX3_refuse 10 = .ok (.putfield 41, 3) := by decide +kernel
theorem dX3_refuse_13 : decode cX3_refuse 13 = .ok (.iconst 0, 1) := by decide +kernel
theorem dX3_refuse_14 : decode cX3_refuse 14 = .ok (.ireturn, 1) := by decide +kernel
abbrev rX3_refuse : Room := { frames := 0, cells := 0, slots := 0, locals := 0 }
theorem cal_X3_refuse : CalOk yX3_refuse cX3_refuse 2 (some .boolean) 1 := ⟨wm_2_238, wm_1_4, by decide, by decide, by decide +kernel⟩
def f_X3_refuse (p0 : Nat) (p1 : Int32) (M : Mm) : Option (Int32 × Mm) :=
  ck (gK M p0 = 3) (ck (gK M p0 = 3) (nm (sI M p0 8 (((8 : Int32) * (gI M p0 5)) + p1)) fun M1 =>
  some ((0 : Int32), M1)))
set_option maxRecDepth 20000 in
set_option maxHeartbeats 4000000 in
theorem t_X3_refuse (p0 : Nat) (p1 : Int32) (M : Mm) (x : Int32) (M' : Mm) (h : f_X3_refuse p0 p1 M = some (x, M')) : Ctr yX3_refuse cX3_refuse 2 (some .boolean) rX3_refuse (fun _ => [.ref p0, .int p1]) M (zI x) M' := by
  refine ctr_of (plainFor_of_name (by decide)) (fun _ => Nat.le_of_ble_eq_true rfl) (fun z hz hin hq => ?_)
  have key : Sim z 0 [(0, .ref p0), (1, .int p1)] [] M 0 0 (f_X3_refuse p0 p1 M) (fun a b => a = x ∧ b = M') := by
    have hq : Ret z zI (fun a b => a = x ∧ b = M') := fun a b e => by rw [e.1, e.2]; exact hq
    unfold f_X3_refuse
    refine r_aload_n hz dX3_refuse_0 0 rfl ?_
    refine r_bipush (v := 8) hz dX3_refuse_1 rfl ?_
    refine r_aload_n hz dX3_refuse_3 0 rfl ?_
    refine r_getI (j := 5) cl3 hz dX3_refuse_4 (by decide) wm_1_203 rfl ?_
    refine r_imul hz dX3_refuse_7 ?_
    refine r_iload_n hz dX3_refuse_8 1 rfl ?_
    refine r_iadd hz dX3_refuse_9 ?_
    refine r_putI (j := 8) cl3 hz dX3_refuse_10 (by decide) wm_1_206 (Or.inl rfl) rfl rfl rfl ?_
    refine r_nmM (fun M1 => ?_)
    refine r_iconst (v := 0) hz dX3_refuse_13 rfl ?_
    exact r_zret hz hq dX3_refuse_14 (Or.inl rfl) (Nat.le_of_ble_eq_true rfl) (Nat.le_of_ble_eq_true rfl)
  exact key x M' h ⟨rfl, rfl⟩
theorem dX3_isName_0 : decode cX3_isName 0 = .ok (.aload_n 0, 1) := by decide +kernel
theorem dX3_isName_1 : decode cX3_isName 1 = .ok (.getfield 29, 3) := by decide +kernel
theorem dX3_isName_4 : decode cX3_isName 4 = .ok (.iconst 1, 1) := by decide +kernel
theorem dX3_isName_5 : decode cX3_isName 5 = .ok (.if_icmp .ne 141, 3) := by decide +kernel
theorem dX3_isName_8 : decode cX3_isName 8 = .ok (.aload_n 0, 1) := by decide +kernel
theorem dX3_isName_9 : decode cX3_isName 9 = .ok (.getfield 38, 3) := by decide +kernel
theorem dX3_isName_12 : decode cX3_isName 12 = .ok (.iconst (-1), 1) := by decide +kernel
theorem dX3_isName_13 : decode cX3_isName 13 = .ok (.if_icmp .eq 133, 3) := by decide +kernel
theorem dX3_isName_16 : decode cX3_isName 16 = .ok (.aload_n 0, 1) := by decide +kernel
theorem dX3_isName_17 : decode cX3_isName 17 = .ok (.ldc 56, 2) := by decide +kernel
theorem dX3_isName_19 : decode cX3_isName 19 = .ok (.invokevirtual 58, 3) := by decide +kernel
theorem dX3_isName_22 : decode cX3_isName 22 = .ok (.ifCond .ne 124, 3) := by decide +kernel
theorem dX3_isName_25 : decode cX3_isName 25 = .ok (.aload_n 0, 1) := by decide +kernel
theorem dX3_isName_26 : decode cX3_isName 26 = .ok (.ldc 100, 2) := by decide +kernel
theorem dX3_isName_28 : decode cX3_isName 28 = .ok (.invokevirtual 58, 3) := by decide +kernel
theorem dX3_isName_31 : decode cX3_isName 31 = .ok (.ifCond .ne 115, 3) := by decide +kernel
theorem dX3_isName_34 : decode cX3_isName 34 = .ok (.aload_n 0, 1) := by decide +kernel
theorem dX3_isName_35 : decode cX3_isName 35 = .ok (.ldc 111, 2) := by decide +kernel
theorem dX3_isName_37 : decode cX3_isName 37 = .ok (.invokevirtual 58, 3) := by decide +kernel
theorem dX3_isName_40 : decode cX3_isName 40 = .ok (.ifCond .ne 106, 3) := by decide +kernel
theorem dX3_isName_43 : decode cX3_isName 43 = .ok (.aload_n 0, 1) := by decide +kernel
theorem dX3_isName_44 : decode cX3_isName 44 = .ok (.ldc 115, 2) := by decide +kernel
theorem dX3_isName_46 : decode cX3_isName 46 = .ok (.invokevirtual 58, 3) := by decide +kernel
theorem dX3_isName_49 : decode cX3_isName 49 = .ok (.ifCond .ne 97, 3) := by decide +kernel
theorem dX3_isName_52 : decode cX3_isName 52 = .ok (.aload_n 0, 1) := by decide +kernel
theorem dX3_isName_53 : decode cX3_isName 53 = .ok (.ldc 119, 2) := by decide +kernel
theorem dX3_isName_55 : decode cX3_isName 55 = .ok (.invokevirtual 58, 3) := by decide +kernel
theorem dX3_isName_58 : decode cX3_isName 58 = .ok (.ifCond .ne 88, 3) := by decide +kernel
theorem dX3_isName_61 : decode cX3_isName 61 = .ok (.aload_n 0, 1) := by decide +kernel
theorem dX3_isName_62 : decode cX3_isName 62 = .ok (.ldc 141, 2) := by decide +kernel
theorem dX3_isName_64 : decode cX3_isName 64 = .ok (.invokevirtual 58, 3) := by decide +kernel
theorem dX3_isName_67 : decode cX3_isName 67 = .ok (.ifCond .ne 79, 3) := by decide +kernel
theorem dX3_isName_70 : decode cX3_isName 70 = .ok (.aload_n 0, 1) := by decide +kernel
theorem dX3_isName_71 : decode cX3_isName 71 = .ok (.ldc 143, 2) := by decide +kernel
theorem dX3_isName_73 : decode cX3_isName 73 = .ok (.invokevirtual 58, 3) := by decide +kernel
theorem dX3_isName_76 : decode cX3_isName 76 = .ok (.ifCond .ne 70, 3) := by decide +kernel
theorem dX3_isName_79 : decode cX3_isName 79 = .ok (.aload_n 0, 1) := by decide +kernel
theorem dX3_isName_80 : decode cX3_isName 80 = .ok (.ldc 135, 2) := by decide +kernel
theorem dX3_isName_82 : decode cX3_isName 82 = .ok (.invokevirtual 58, 3) := by decide +kernel
theorem dX3_isName_85 : decode cX3_isName 85 = .ok (.ifCond .ne 61, 3) := by decide +kernel
theorem dX3_isName_88 : decode cX3_isName 88 = .ok (.aload_n 0, 1) := by decide +kernel
theorem dX3_isName_89 : decode cX3_isName 89 = .ok (.ldc 147, 2) := by decide +kernel
theorem dX3_isName_91 : decode cX3_isName 91 = .ok (.invokevirtual 58, 3) := by decide +kernel
theorem dX3_isName_94 : decode cX3_isName 94 = .ok (.ifCond .ne 52, 3) := by decide +kernel
theorem dX3_isName_97 : decode cX3_isName 97 = .ok (.aload_n 0, 1) := by decide +kernel
theorem dX3_isName_98 : decode cX3_isName 98 = .ok (.ldc 66, 2) := by decide +kernel
theorem dX3_isName_100 : decode cX3_isName 100 = .ok (.invokevirtual 58, 3) := by decide +kernel
theorem dX3_isName_103 : decode cX3_isName 103 = .ok (.ifCond .ne 43, 3) := by decide +kernel
theorem dX3_isName_106 : decode cX3_isName 106 = .ok (.aload_n 0, 1) := by decide +kernel
theorem dX3_isName_107 : decode cX3_isName 107 = .ok (.ldc 154, 2) := by decide +kernel
theorem dX3_isName_109 : decode cX3_isName 109 = .ok (.invokevirtual 58, 3) := by decide +kernel
theorem dX3_isName_112 : decode cX3_isName 112 = .ok (.ifCond .ne 34, 3) := by decide +kernel
theorem dX3_isName_115 : decode cX3_isName 115 = .ok (.aload_n 0, 1) := by decide +kernel
theorem dX3_isName_116 : decode cX3_isName 116 = .ok (.ldc 71, 2) := by decide +kernel
theorem dX3_isName_118 : decode cX3_isName 118 = .ok (.invokevirtual 58, 3) := by decide +kernel
theorem dX3_isName_121 : decode cX3_isName 121 = .ok (.ifCond .ne 25, 3) := by decide +kernel
theorem dX3_isName_124 : decode cX3_isName 124 = .ok (.aload_n 0, 1) := by decide +kernel
theorem dX3_isName_125 : decode cX3_isName 125 = .ok (.ldc 76, 2) := by decide +kernel
theorem dX3_isName_127 : decode cX3_isName 127 = .ok (.invokevirtual 58, 3) := by decide +kernel
theorem dX3_isName_130 : decode cX3_isName 130 = .ok (.ifCond .ne 16, 3) := by decide +kernel
theorem dX3_isName_133 : decode cX3_isName 133 = .ok (.aload_n 0, 1) := by decide +kernel
theorem dX3_isName_134 : decode cX3_isName 134 = .ok (.ldc 81, 2) := by decide +kernel
theorem dX3_isName_136 : decode cX3_isName 136 = .ok (.invokevirtual 58, 3) := by decide +kernel
theorem dX3_isName_139 : decode cX3_isName 139 = .ok (.ifCond .ne 7, 3) := by decide +kernel
theorem dX3_isName_142 : decode cX3_isName 142 = .ok (.iconst 1, 1) := by decide +kernel
theorem dX3_isName_143 : decode cX3_isName 143 = .ok (.goto 4, 3) := by decide +kernel
theorem dX3_isName_146 : decode cX3_isName 146 = .ok (.iconst 0, 1) := by decide +kernel
theorem dX3_isName_147 : decode cX3_isName 147 = .ok (.ireturn, 1) := by decide +kernel
abbrev rX3_isName : Room := { frames := 7, cells := 0, slots := 0, locals := 173 }
theorem cal_X3_isName : CalOk yX3_isName cX3_isName 1 (some .boolean) 0 := ⟨wm_3_6, wm_1_4, by decide, by decide, by decide +kernel⟩
def f_X3_isName (p0 : Nat) (M : Mm) : Option (Int32 × Mm) :=
  ck (gK M p0 = 3) ((if ¬ (gI M p0 4) = (1 : Int32) then
    some ((0 : Int32), M)
  else
    ck (gK M p0 = 3) ((if (gI M p0 7) = (-1 : Int32) then
      some ((0 : Int32), M)
    else
      ck (gK M p0 = 3) (bd (f_X3_spells p0 0 M) fun v2 M1 =>
      (if ¬ v2 = 0 then
        some ((0 : Int32), M1)
      else
        ck (gK M1 p0 = 3) (bd (f_X3_spells p0 1 M1) fun v4 M3 =>
        (if ¬ v4 = 0 then
          some ((0 : Int32), M3)
        else
          ck (gK M3 p0 = 3) (bd (f_X3_spells p0 2 M3) fun v6 M5 =>
          (if ¬ v6 = 0 then
            some ((0 : Int32), M5)
          else
            ck (gK M5 p0 = 3) (bd (f_X3_spells p0 3 M5) fun v8 M7 =>
            (if ¬ v8 = 0 then
              some ((0 : Int32), M7)
            else
              ck (gK M7 p0 = 3) (bd (f_X3_spells p0 4 M7) fun v10 M9 =>
              (if ¬ v10 = 0 then
                some ((0 : Int32), M9)
              else
                ck (gK M9 p0 = 3) (bd (f_X3_spells p0 5 M9) fun v12 M11 =>
                (if ¬ v12 = 0 then
                  some ((0 : Int32), M11)
                else
                  ck (gK M11 p0 = 3) (bd (f_X3_spells p0 6 M11) fun v14 M13 =>
                  (if ¬ v14 = 0 then
                    some ((0 : Int32), M13)
                  else
                    ck (gK M13 p0 = 3) (bd (f_X3_spells p0 7 M13) fun v16 M15 =>
                    (if ¬ v16 = 0 then
                      some ((0 : Int32), M15)
                    else
                      ck (gK M15 p0 = 3) (bd (f_X3_spells p0 8 M15) fun v18 M17 =>
                      (if ¬ v18 = 0 then
                        some ((0 : Int32), M17)
                      else
                        ck (gK M17 p0 = 3) (bd (f_X3_spells p0 9 M17) fun v20 M19 =>
                        (if ¬ v20 = 0 then
                          some ((0 : Int32), M19)
                        else
                          ck (gK M19 p0 = 3) (bd (f_X3_spells p0 10 M19) fun v22 M21 =>
                          (if ¬ v22 = 0 then
                            some ((0 : Int32), M21)
                          else
                            ck (gK M21 p0 = 3) (bd (f_X3_spells p0 11 M21) fun v24 M23 =>
                            (if ¬ v24 = 0 then
                              some ((0 : Int32), M23)
                            else
                              ck (gK M23 p0 = 3) (bd (f_X3_spells p0 12 M23) fun v26 M25 =>
                              (if ¬ v26 = 0 then
                                some ((0 : Int32), M25)
                              else
                                ck (gK M25 p0 = 3) (bd (f_X3_spells p0 13 M25) fun v28 M27 =>
                                (if ¬ v28 = 0 then
                                  some ((0 : Int32), M27)
                                else
                                  some ((1 : Int32), M27)))))))))))))))))))))))))))))))))
set_option maxRecDepth 20000 in
set_option maxHeartbeats 4000000 in
theorem t_X3_isName (p0 : Nat) (M : Mm) (x : Int32) (M' : Mm) (h : f_X3_isName p0 M = some (x, M')) : Ctr yX3_isName cX3_isName 1 (some .boolean) rX3_isName (fun _ => [.ref p0]) M (zI x) M' := by
  refine ctr_of (plainFor_of_name (by decide)) (fun _ => Nat.le_of_ble_eq_true rfl) (fun z hz hin hq => ?_)
  have key : Sim z 0 [(0, .ref p0)] [] M 0 0 (f_X3_isName p0 M) (fun a b => a = x ∧ b = M') := by
    have hq : Ret z zI (fun a b => a = x ∧ b = M') := fun a b e => by rw [e.1, e.2]; exact hq
    unfold f_X3_isName
    refine r_aload_n hz dX3_isName_0 0 rfl ?_
    refine r_getI (j := 4) cl3 hz dX3_isName_1 (by decide) wm_1_202 rfl ?_
    refine r_iconst (v := 1) hz dX3_isName_4 rfl ?_
    refine r_icmp_ne (tgt := 146) hz dX3_isName_5 rfl ?_ ?_
    · refine r_iconst (v := 0) hz dX3_isName_146 rfl ?_
      exact r_zret hz hq dX3_isName_147 (Or.inl rfl) (Nat.le_of_ble_eq_true rfl) (Nat.le_of_ble_eq_true rfl)
    · refine r_aload_n hz dX3_isName_8 0 rfl ?_
      refine r_getI (j := 7) cl3 hz dX3_isName_9 (by decide) wm_1_205 rfl ?_
      refine r_iconst (v := -1) hz dX3_isName_12 rfl ?_
      refine r_icmp_eq (tgt := 146) hz dX3_isName_13 rfl ?_ ?_
      · refine r_iconst (v := 0) hz dX3_isName_146 rfl ?_
        exact r_zret hz hq dX3_isName_147 (Or.inl rfl) (Nat.le_of_ble_eq_true rfl) (Nat.le_of_ble_eq_true rfl)
      · refine r_aload_n hz dX3_isName_16 0 rfl ?_
        refine r_ldcS hz dX3_isName_17 0 rfl ?_
        refine r_callVi (As := fun g => [.ref (g.2.2.2.1 0)]) cl3 hz (fun _ _ h => t_X3_spells _ _ _ _ _ h) cal_X3_spells dX3_isName_19 wm_2_179 wm_2_181 wm_p_2 rfl rfl (Nat.le_of_ble_eq_true rfl) ⟨(Nat.le_of_ble_eq_true rfl), (Nat.le_of_ble_eq_true rfl)⟩ ⟨(Nat.le_of_ble_eq_true rfl), (Nat.le_of_ble_eq_true rfl)⟩ (fun v2 M1 => ?_)
        refine r_if_ne (tgt := 146) hz dX3_isName_22 rfl ?_ ?_
        · refine r_iconst (v := 0) hz dX3_isName_146 rfl ?_
          exact r_zret hz hq dX3_isName_147 (Or.inl rfl) (Nat.le_of_ble_eq_true rfl) (Nat.le_of_ble_eq_true rfl)
        · refine r_aload_n hz dX3_isName_25 0 rfl ?_
          refine r_ldcS hz dX3_isName_26 1 rfl ?_
          refine r_callVi (As := fun g => [.ref (g.2.2.2.1 1)]) cl3 hz (fun _ _ h => t_X3_spells _ _ _ _ _ h) cal_X3_spells dX3_isName_28 wm_2_179 wm_2_181 wm_p_2 rfl rfl (Nat.le_of_ble_eq_true rfl) ⟨(Nat.le_of_ble_eq_true rfl), (Nat.le_of_ble_eq_true rfl)⟩ ⟨(Nat.le_of_ble_eq_true rfl), (Nat.le_of_ble_eq_true rfl)⟩ (fun v4 M3 => ?_)
          refine r_if_ne (tgt := 146) hz dX3_isName_31 rfl ?_ ?_
          · refine r_iconst (v := 0) hz dX3_isName_146 rfl ?_
            exact r_zret hz hq dX3_isName_147 (Or.inl rfl) (Nat.le_of_ble_eq_true rfl) (Nat.le_of_ble_eq_true rfl)
          · refine r_aload_n hz dX3_isName_34 0 rfl ?_
            refine r_ldcS hz dX3_isName_35 2 rfl ?_
            refine r_callVi (As := fun g => [.ref (g.2.2.2.1 2)]) cl3 hz (fun _ _ h => t_X3_spells _ _ _ _ _ h) cal_X3_spells dX3_isName_37 wm_2_179 wm_2_181 wm_p_2 rfl rfl (Nat.le_of_ble_eq_true rfl) ⟨(Nat.le_of_ble_eq_true rfl), (Nat.le_of_ble_eq_true rfl)⟩ ⟨(Nat.le_of_ble_eq_true rfl), (Nat.le_of_ble_eq_true rfl)⟩ (fun v6 M5 => ?_)
            refine r_if_ne (tgt := 146) hz dX3_isName_40 rfl ?_ ?_
            · refine r_iconst (v := 0) hz dX3_isName_146 rfl ?_
              exact r_zret hz hq dX3_isName_147 (Or.inl rfl) (Nat.le_of_ble_eq_true rfl) (Nat.le_of_ble_eq_true rfl)
            · refine r_aload_n hz dX3_isName_43 0 rfl ?_
              refine r_ldcS hz dX3_isName_44 3 rfl ?_
              refine r_callVi (As := fun g => [.ref (g.2.2.2.1 3)]) cl3 hz (fun _ _ h => t_X3_spells _ _ _ _ _ h) cal_X3_spells dX3_isName_46 wm_2_179 wm_2_181 wm_p_2 rfl rfl (Nat.le_of_ble_eq_true rfl) ⟨(Nat.le_of_ble_eq_true rfl), (Nat.le_of_ble_eq_true rfl)⟩ ⟨(Nat.le_of_ble_eq_true rfl), (Nat.le_of_ble_eq_true rfl)⟩ (fun v8 M7 => ?_)
              refine r_if_ne (tgt := 146) hz dX3_isName_49 rfl ?_ ?_
              · refine r_iconst (v := 0) hz dX3_isName_146 rfl ?_
                exact r_zret hz hq dX3_isName_147 (Or.inl rfl) (Nat.le_of_ble_eq_true rfl) (Nat.le_of_ble_eq_true rfl)
              · refine r_aload_n hz dX3_isName_52 0 rfl ?_
                refine r_ldcS hz dX3_isName_53 4 rfl ?_
                refine r_callVi (As := fun g => [.ref (g.2.2.2.1 4)]) cl3 hz (fun _ _ h => t_X3_spells _ _ _ _ _ h) cal_X3_spells dX3_isName_55 wm_2_179 wm_2_181 wm_p_2 rfl rfl (Nat.le_of_ble_eq_true rfl) ⟨(Nat.le_of_ble_eq_true rfl), (Nat.le_of_ble_eq_true rfl)⟩ ⟨(Nat.le_of_ble_eq_true rfl), (Nat.le_of_ble_eq_true rfl)⟩ (fun v10 M9 => ?_)
                refine r_if_ne (tgt := 146) hz dX3_isName_58 rfl ?_ ?_
                · refine r_iconst (v := 0) hz dX3_isName_146 rfl ?_
                  exact r_zret hz hq dX3_isName_147 (Or.inl rfl) (Nat.le_of_ble_eq_true rfl) (Nat.le_of_ble_eq_true rfl)
                · refine r_aload_n hz dX3_isName_61 0 rfl ?_
                  refine r_ldcS hz dX3_isName_62 5 rfl ?_
                  refine r_callVi (As := fun g => [.ref (g.2.2.2.1 5)]) cl3 hz (fun _ _ h => t_X3_spells _ _ _ _ _ h) cal_X3_spells dX3_isName_64 wm_2_179 wm_2_181 wm_p_2 rfl rfl (Nat.le_of_ble_eq_true rfl) ⟨(Nat.le_of_ble_eq_true rfl), (Nat.le_of_ble_eq_true rfl)⟩ ⟨(Nat.le_of_ble_eq_true rfl), (Nat.le_of_ble_eq_true rfl)⟩ (fun v12 M11 => ?_)
                  refine r_if_ne (tgt := 146) hz dX3_isName_67 rfl ?_ ?_
                  · refine r_iconst (v := 0) hz dX3_isName_146 rfl ?_
                    exact r_zret hz hq dX3_isName_147 (Or.inl rfl) (Nat.le_of_ble_eq_true rfl) (Nat.le_of_ble_eq_true rfl)
                  · refine r_aload_n hz dX3_isName_70 0 rfl ?_
                    refine r_ldcS hz dX3_isName_71 6 rfl ?_
                    refine r_callVi (As := fun g => [.ref (g.2.2.2.1 6)]) cl3 hz (fun _ _ h => t_X3_spells _ _ _ _ _ h) cal_X3_spells dX3_isName_73 wm_2_179 wm_2_181 wm_p_2 rfl rfl (Nat.le_of_ble_eq_true rfl) ⟨(Nat.le_of_ble_eq_true rfl), (Nat.le_of_ble_eq_true rfl)⟩ ⟨(Nat.le_of_ble_eq_true rfl), (Nat.le_of_ble_eq_true rfl)⟩ (fun v14 M13 => ?_)
                    refine r_if_ne (tgt := 146) hz dX3_isName_76 rfl ?_ ?_
                    · refine r_iconst (v := 0) hz dX3_isName_146 rfl ?_
                      exact r_zret hz hq dX3_isName_147 (Or.inl rfl) (Nat.le_of_ble_eq_true rfl) (Nat.le_of_ble_eq_true rfl)
                    · refine r_aload_n hz dX3_isName_79 0 rfl ?_
                      refine r_ldcS hz dX3_isName_80 7 rfl ?_
                      refine r_callVi (As := fun g => [.ref (g.2.2.2.1 7)]) cl3 hz (fun _ _ h => t_X3_spells _ _ _ _ _ h) cal_X3_spells dX3_isName_82 wm_2_179 wm_2_181 wm_p_2 rfl rfl (Nat.le_of_ble_eq_true rfl) ⟨(Nat.le_of_ble_eq_true rfl), (Nat.le_of_ble_eq_true rfl)⟩ ⟨(Nat.le_of_ble_eq_true rfl), (Nat.le_of_ble_eq_true rfl)⟩ (fun v16 M15 => ?_)
                      refine r_if_ne (tgt := 146) hz dX3_isName_85 rfl ?_ ?_
                      · refine r_iconst (v := 0) hz dX3_isName_146 rfl ?_
                        exact r_zret hz hq dX3_isName_147 (Or.inl rfl) (Nat.le_of_ble_eq_true rfl) (Nat.le_of_ble_eq_true rfl)
                      · refine r_aload_n hz dX3_isName_88 0 rfl ?_
                        refine r_ldcS hz dX3_isName_89 8 rfl ?_
                        refine r_callVi (As := fun g => [.ref (g.2.2.2.1 8)]) cl3 hz (fun _ _ h => t_X3_spells _ _ _ _ _ h) cal_X3_spells dX3_isName_91 wm_2_179 wm_2_181 wm_p_2 rfl rfl (Nat.le_of_ble_eq_true rfl) ⟨(Nat.le_of_ble_eq_true rfl), (Nat.le_of_ble_eq_true rfl)⟩ ⟨(Nat.le_of_ble_eq_true rfl), (Nat.le_of_ble_eq_true rfl)⟩ (fun v18 M17 => ?_)
                        refine r_if_ne (tgt := 146) hz dX3_isName_94 rfl ?_ ?_
                        · refine r_iconst (v := 0) hz dX3_isName_146 rfl ?_
                          exact r_zret hz hq dX3_isName_147 (Or.inl rfl) (Nat.le_of_ble_eq_true rfl) (Nat.le_of_ble_eq_true rfl)
                        · refine r_aload_n hz dX3_isName_97 0 rfl ?_
                          refine r_ldcS hz dX3_isName_98 9 rfl ?_
                          refine r_callVi (As := fun g => [.ref (g.2.2.2.1 9)]) cl3 hz (fun _ _ h => t_X3_spells _ _ _ _ _ h) cal_X3_spells dX3_isName_100 wm_2_179 wm_2_181 wm_p_2 rfl rfl (Nat.le_of_ble_eq_true rfl) ⟨(Nat.le_of_ble_eq_true rfl), (Nat.le_of_ble_eq_true rfl)⟩ ⟨(Nat.le_of_ble_eq_true rfl), (Nat.le_of_ble_eq_true rfl)⟩ (fun v20 M19 => ?_)
                          refine r_if_ne (tgt := 146) hz dX3_isName_103 rfl ?_ ?_
                          · refine r_iconst (v := 0) hz dX3_isName_146 rfl ?_
                            exact r_zret hz hq dX3_isName_147 (Or.inl rfl) (Nat.le_of_ble_eq_true rfl) (Nat.le_of_ble_eq_true rfl)
                          · refine r_aload_n hz dX3_isName_106 0 rfl ?_
                            refine r_ldcS hz dX3_isName_107 10 rfl ?_
                            refine r_callVi (As := fun g => [.ref (g.2.2.2.1 10)]) cl3 hz (fun _ _ h => t_X3_spells _ _ _ _ _ h) cal_X3_spells dX3_isName_109 wm_2_179 wm_2_181 wm_p_2 rfl rfl (Nat.le_of_ble_eq_true rfl) ⟨(Nat.le_of_ble_eq_true rfl), (Nat.le_of_ble_eq_true rfl)⟩ ⟨(Nat.le_of_ble_eq_true rfl), (Nat.le_of_ble_eq_true rfl)⟩ (fun v22 M21 => ?_)
                            refine r_if_ne (tgt := 146) hz dX3_isName_112 rfl ?_ ?_
                            · refine r_iconst (v := 0) hz dX3_isName_146 rfl ?_
                              exact r_zret hz hq dX3_isName_147 (Or.inl rfl) (Nat.le_of_ble_eq_true rfl) (Nat.le_of_ble_eq_true rfl)
                            · refine r_aload_n hz dX3_isName_115 0 rfl ?_
                              refine r_ldcS hz dX3_isName_116 11 rfl ?_
                              refine r_callVi (As := fun g => [.ref (g.2.2.2.1 11)]) cl3 hz (fun _ _ h => t_X3_spells _ _ _ _ _ h) cal_X3_spells dX3_isName_118 wm_2_179 wm_2_181 wm_p_2 rfl rfl (Nat.le_of_ble_eq_true rfl) ⟨(Nat.le_of_ble_eq_true rfl), (Nat.le_of_ble_eq_true rfl)⟩ ⟨(Nat.le_of_ble_eq_true rfl), (Nat.le_of_ble_eq_true rfl)⟩ (fun v24 M23 => ?_)
                              refine r_if_ne (tgt := 146) hz dX3_isName_121 rfl ?_ ?_
                              · refine r_iconst (v := 0) hz dX3_isName_146 rfl ?_
                                exact r_zret hz hq dX3_isName_147 (Or.inl rfl) (Nat.le_of_ble_eq_true rfl) (Nat.le_of_ble_eq_true rfl)
                              · refine r_aload_n hz dX3_isName_124 0 rfl ?_
                                refine r_ldcS hz dX3_isName_125 12 rfl ?_
                                refine r_callVi (As := fun g => [.ref (g.2.2.2.1 12)]) cl3 hz (fun _ _ h => t_X3_spells _ _ _ _ _ h) cal_X3_spells dX3_isName_127 wm_2_179 wm_2_181 wm_p_2 rfl rfl (Nat.le_of_ble_eq_true rfl) ⟨(Nat.le_of_ble_eq_true rfl), (Nat.le_of_ble_eq_true rfl)⟩ ⟨(Nat.le_of_ble_eq_true rfl), (Nat.le_of_ble_eq_true rfl)⟩ (fun v26 M25 => ?_)
                                refine r_if_ne (tgt := 146) hz dX3_isName_130 rfl ?_ ?_
                                · refine r_iconst (v := 0) hz dX3_isName_146 rfl ?_
                                  exact r_zret hz hq dX3_isName_147 (Or.inl rfl) (Nat.le_of_ble_eq_true rfl) (Nat.le_of_ble_eq_true rfl)
                                · refine r_aload_n hz dX3_isName_133 0 rfl ?_
                                  refine r_ldcS hz dX3_isName_134 13 rfl ?_
                                  refine r_callVi (As := fun g => [.ref (g.2.2.2.1 13)]) cl3 hz (fun _ _ h => t_X3_spells _ _ _ _ _ h) cal_X3_spells dX3_isName_136 wm_2_179 wm_2_181 wm_p_2 rfl rfl (Nat.le_of_ble_eq_true rfl) ⟨(Nat.le_of_ble_eq_true rfl), (Nat.le_of_ble_eq_true rfl)⟩ ⟨(Nat.le_of_ble_eq_true rfl), (Nat.le_of_ble_eq_true rfl)⟩ (fun v28 M27 => ?_)
                                  refine r_if_ne (tgt := 146) hz dX3_isName_139 rfl ?_ ?_
                                  · refine r_iconst (v := 0) hz dX3_isName_146 rfl ?_
                                    exact r_zret hz hq dX3_isName_147 (Or.inl rfl) (Nat.le_of_ble_eq_true rfl) (Nat.le_of_ble_eq_true rfl)
                                  · refine r_iconst (v := 1) hz dX3_isName_142 rfl ?_
                                    refine r_goto (tgt := 147) hz dX3_isName_143 rfl ?_
                                    exact r_zret hz hq dX3_isName_147 (Or.inr rfl) (Nat.le_of_ble_eq_true rfl) (Nat.le_of_ble_eq_true rfl)
  exact key x M' h ⟨rfl, rfl⟩
theorem dX6_loanCalled_0 : decode cX6_loanCalled 0 = .ok (.iconst 0, 1) := by decide +kernel
theorem dX6_loanCalled_1 : decode cX6_loanCalled 1 = .ok (.istore_n 2, 1) := by decide +kernel
theorem dX6_loanCalled_2 : decode cX6_loanCalled 2 = .ok (.iload_n 2, 1) := by decide +kernel
theorem dX6_loanCalled_3 : decode cX6_loanCalled 3 = .ok (.aload_n 0, 1) := by decide +kernel
theorem dX6_loanCalled_4 : decode cX6_loanCalled 4 = .ok (.getfield 9, 3) := by decide +kernel
theorem dX6_loanCalled_7 : decode cX6_loanCalled 7 = .ok (.if_icmp .ge 21, 3) := by decide +kernel
theorem dX6_loanCalled_10 : decode cX6_loanCalled 10 = .ok (.aload_n 0, 1) := by decide +kernel
theorem dX6_loanCalled_11 : decode cX6_loanCalled 11 = .ok (.getfield 27, 3) := by decide +kernel
theorem dX6_loanCalled_14 : decode cX6_loanCalled 14 = .ok (.iload_n 2, 1) := by decide +kernel
theorem dX6_loanCalled_15 : decode cX6_loanCalled 15 = .ok (.iaload, 1) := by decide +kernel
theorem dX6_loanCalled_16 : decode cX6_loanCalled 16 = .ok (.iload_n 1, 1) := by decide +kernel
theorem dX6_loanCalled_17 : decode cX6_loanCalled 17 = .ok (.if_icmp .ne 5, 3) := by decide +kernel
theorem dX6_loanCalled_20 : decode cX6_loanCalled 20 = .ok (.iload_n 2, 1) := by decide +kernel
theorem dX6_loanCalled_21 : decode cX6_loanCalled 21 = .ok (.ireturn, 1) := by decide +kernel
theorem dX6_loanCalled_22 : decode cX6_loanCalled 22 = .ok (.iinc 2 1, 3) := by decide +kernel
theorem dX6_loanCalled_25 : decode cX6_loanCalled 25 = .ok (.goto (-23), 3) := by decide +kernel
theorem dX6_loanCalled_28 : decode cX6_loanCalled 28 = .ok (.iconst (-1), 1) := by decide +kernel
theorem dX6_loanCalled_29 : decode cX6_loanCalled 29 = .ok (.ireturn, 1) := by decide +kernel
abbrev rX6_loanCalled : Room := { frames := 0, cells := 0, slots := 0, locals := 0 }
theorem cal_X6_loanCalled : CalOk yX6_loanCalled cX6_loanCalled 3 (some .int) 1 := ⟨wm_3_23, wm_1_2, by decide, by decide, by decide +kernel⟩
def f_X6_loanCalled_2 : Nat → Nat → Int32 → Int32 → Mm → Option (Int32 × Mm)
  | 0, _, _, _, _ => none
  | n + 1, x0, x1, x2, M =>
    ck (gK M x0 = 6) ((if (gI M x0 0) ≤ x2 then
      some ((-1 : Int32), M)
    else
      ck (gK M x0 = 6) (bR (gR M x0 5) fun q1 => ck (gK M q1 = 10 ∧ inb x2 (gN M q1)) ((if ¬ (gI M q1 (x2).toNatClampNeg) = x1 then
        f_X6_loanCalled_2 n x0 x1 (x2 + (1 : Int32)) M
      else
        some (x2, M))))))
set_option maxRecDepth 20000 in
set_option maxHeartbeats 4000000 in
theorem s_X6_loanCalled_2 {z : Zt} {K : Int32 → Mm → Prop} (hz : Good z RX6 cX6_loanCalled 3 rX6_loanCalled (some .int)) (hq : Ret z zI K) : ∀ (n : Nat) (x0 : Nat) (x1 : Int32) (x2 : Int32) (M : Mm), Sim z 2 [(0, .ref x0), (1, .int x1), (2, .int x2)] [] M 0 0 (f_X6_loanCalled_2 n x0 x1 x2 M) K := by
  intro n
  induction n with
  | zero => exact fun _ _ _ _ => r_none
  | succ n ih =>
    intro x0 x1 x2 M
    unfold f_X6_loanCalled_2
    refine r_iload_n hz dX6_loanCalled_2 2 rfl ?_
    refine r_aload_n hz dX6_loanCalled_3 0 rfl ?_
    refine r_getI (j := 0) cl6 hz dX6_loanCalled_4 (by decide) wm_1_35 rfl ?_
    refine r_icmp_ge (tgt := 28) hz dX6_loanCalled_7 rfl ?_ ?_
    · refine r_iconst (v := -1) hz dX6_loanCalled_28 rfl ?_
      exact r_iret hz hq dX6_loanCalled_29 (Nat.le_of_ble_eq_true rfl) (Nat.le_of_ble_eq_true rfl)
    · refine r_aload_n hz dX6_loanCalled_10 0 rfl ?_
      refine r_getR (j := 5) cl6 hz dX6_loanCalled_11 (by decide) wm_1_49 rfl (fun q1 => ?_)
      refine r_iload_n hz dX6_loanCalled_14 2 rfl ?_
      refine r_iald hz dX6_loanCalled_15 ?_
      refine r_iload_n hz dX6_loanCalled_16 1 rfl ?_
      refine r_icmp_ne (tgt := 22) hz dX6_loanCalled_17 rfl ?_ ?_
      · refine r_iinc (v := (x2 + (1 : Int32))) (lv' := [(2, .int (x2 + (1 : Int32))), (0, .ref x0), (1, .int x1)]) hz dX6_loanCalled_22 2 rfl rfl (by decide) rfl ?_
        refine r_goto (tgt := 2) hz dX6_loanCalled_25 rfl ?_
        refine r_sub [1, 2, 0] rfl ?_
        exact ih x0 x1 (x2 + (1 : Int32)) M
      · refine r_iload_n hz dX6_loanCalled_20 2 rfl ?_
        exact r_iret hz hq dX6_loanCalled_21 (Nat.le_of_ble_eq_true rfl) (Nat.le_of_ble_eq_true rfl)
def f_X6_loanCalled (p0 : Nat) (p1 : Int32) (M : Mm) : Option (Int32 × Mm) :=
  f_X6_loanCalled_2 FU p0 p1 (0 : Int32) M
set_option maxRecDepth 20000 in
set_option maxHeartbeats 4000000 in
theorem t_X6_loanCalled (p0 : Nat) (p1 : Int32) (M : Mm) (x : Int32) (M' : Mm) (h : f_X6_loanCalled p0 p1 M = some (x, M')) : Ctr yX6_loanCalled cX6_loanCalled 3 (some .int) rX6_loanCalled (fun _ => [.ref p0, .int p1]) M (zI x) M' := by
  refine ctr_of (plainFor_of_name (by decide)) (fun _ => Nat.le_of_ble_eq_true rfl) (fun z hz hin hq => ?_)
  have key : Sim z 0 [(0, .ref p0), (1, .int p1)] [] M 0 0 (f_X6_loanCalled p0 p1 M) (fun a b => a = x ∧ b = M') := by
    have hq : Ret z zI (fun a b => a = x ∧ b = M') := fun a b e => by rw [e.1, e.2]; exact hq
    unfold f_X6_loanCalled
    refine r_iconst (v := 0) hz dX6_loanCalled_0 rfl ?_
    refine r_istore_n (lv' := [(2, .int (0 : Int32)), (0, .ref p0), (1, .int p1)]) hz dX6_loanCalled_1 (by decide) rfl ?_
    refine r_sub [1, 2, 0] rfl ?_
    exact s_X6_loanCalled_2 hz hq FU p0 p1 (0 : Int32) M
  exact key x M' h ⟨rfl, rfl⟩
theorem dX6_holderCalled_0 : decode cX6_holderCalled 0 = .ok (.iconst 0, 1) := by decide +kernel
theorem dX6_holderCalled_1 : decode cX6_holderCalled 1 = .ok (.istore_n 2, 1) := by decide +kernel
theorem dX6_holderCalled_2 : decode cX6_holderCalled 2 = .ok (.iload_n 2, 1) := by decide +kernel
theorem dX6_holderCalled_3 : decode cX6_holderCalled 3 = .ok (.aload_n 0, 1) := by decide +kernel
theorem dX6_holderCalled_4 : decode cX6_holderCalled 4 = .ok (.getfield 15, 3) := by decide +kernel
theorem dX6_holderCalled_7 : decode cX6_holderCalled 7 = .ok (.if_icmp .ge 21, 3) := by decide +kernel
theorem dX6_holderCalled_10 : decode cX6_holderCalled 10 = .ok (.aload_n 0, 1) := by decide +kernel
theorem dX6_holderCalled_11 : decode cX6_holderCalled 11 = .ok (.getfield 52, 3) := by decide +kernel
theorem dX6_holderCalled_14 : decode cX6_holderCalled 14 = .ok (.iload_n 2, 1) := by decide +kernel
theorem dX6_holderCalled_15 : decode cX6_holderCalled 15 = .ok (.iaload, 1) := by decide +kernel
theorem dX6_holderCalled_16 : decode cX6_holderCalled 16 = .ok (.iload_n 1, 1) := by decide +kernel
theorem dX6_holderCalled_17 : decode cX6_holderCalled 17 = .ok (.if_icmp .ne 5, 3) := by decide +kernel
theorem dX6_holderCalled_20 : decode cX6_holderCalled 20 = .ok (.iload_n 2, 1) := by decide +kernel
theorem dX6_holderCalled_21 : decode cX6_holderCalled 21 = .ok (.ireturn, 1) := by decide +kernel
theorem dX6_holderCalled_22 : decode cX6_holderCalled 22 = .ok (.iinc 2 1, 3) := by decide +kernel
theorem dX6_holderCalled_25 : decode cX6_holderCalled 25 = .ok (.goto (-23), 3) := by decide +kernel
theorem dX6_holderCalled_28 : decode cX6_holderCalled 28 = .ok (.iconst (-1), 1) := by decide +kernel
theorem dX6_holderCalled_29 : decode cX6_holderCalled 29 = .ok (.ireturn, 1) := by decide +kernel
abbrev rX6_holderCalled : Room := { frames := 0, cells := 0, slots := 0, locals := 0 }
theorem cal_X6_holderCalled : CalOk yX6_holderCalled cX6_holderCalled 3 (some .int) 1 := ⟨wm_3_27, wm_1_2, by decide, by decide, by decide +kernel⟩
def f_X6_holderCalled_2 : Nat → Nat → Int32 → Int32 → Mm → Option (Int32 × Mm)
  | 0, _, _, _, _ => none
  | n + 1, x0, x1, x2, M =>
    ck (gK M x0 = 6) ((if (gI M x0 1) ≤ x2 then
      some ((-1 : Int32), M)
    else
      ck (gK M x0 = 6) (bR (gR M x0 13) fun q1 => ck (gK M q1 = 10 ∧ inb x2 (gN M q1)) ((if ¬ (gI M q1 (x2).toNatClampNeg) = x1 then
        f_X6_holderCalled_2 n x0 x1 (x2 + (1 : Int32)) M
      else
        some (x2, M))))))
set_option maxRecDepth 20000 in
set_option maxHeartbeats 4000000 in
theorem s_X6_holderCalled_2 {z : Zt} {K : Int32 → Mm → Prop} (hz : Good z RX6 cX6_holderCalled 3 rX6_holderCalled (some .int)) (hq : Ret z zI K) : ∀ (n : Nat) (x0 : Nat) (x1 : Int32) (x2 : Int32) (M : Mm), Sim z 2 [(0, .ref x0), (1, .int x1), (2, .int x2)] [] M 0 0 (f_X6_holderCalled_2 n x0 x1 x2 M) K := by
  intro n
  induction n with
  | zero => exact fun _ _ _ _ => r_none
  | succ n ih =>
    intro x0 x1 x2 M
    unfold f_X6_holderCalled_2
    refine r_iload_n hz dX6_holderCalled_2 2 rfl ?_
    refine r_aload_n hz dX6_holderCalled_3 0 rfl ?_
    refine r_getI (j := 1) cl6 hz dX6_holderCalled_4 (by decide) wm_1_40 rfl ?_
    refine r_icmp_ge (tgt := 28) hz dX6_holderCalled_7 rfl ?_ ?_
    · refine r_iconst (v := -1) hz dX6_holderCalled_28 rfl ?_
      exact r_iret hz hq dX6_holderCalled_29 (Nat.le_of_ble_eq_true rfl) (Nat.le_of_ble_eq_true rfl)
    · refine r_aload_n hz dX6_holderCalled_10 0 rfl ?_
      refine r_getR (j := 13) cl6 hz dX6_holderCalled_11 (by decide) wm_1_83 rfl (fun q1 => ?_)
      refine r_iload_n hz dX6_holderCalled_14 2 rfl ?_
      refine r_iald hz dX6_holderCalled_15 ?_
      refine r_iload_n hz dX6_holderCalled_16 1 rfl ?_
      refine r_icmp_ne (tgt := 22) hz dX6_holderCalled_17 rfl ?_ ?_
      · refine r_iinc (v := (x2 + (1 : Int32))) (lv' := [(2, .int (x2 + (1 : Int32))), (0, .ref x0), (1, .int x1)]) hz dX6_holderCalled_22 2 rfl rfl (by decide) rfl ?_
        refine r_goto (tgt := 2) hz dX6_holderCalled_25 rfl ?_
        refine r_sub [1, 2, 0] rfl ?_
        exact ih x0 x1 (x2 + (1 : Int32)) M
      · refine r_iload_n hz dX6_holderCalled_20 2 rfl ?_
        exact r_iret hz hq dX6_holderCalled_21 (Nat.le_of_ble_eq_true rfl) (Nat.le_of_ble_eq_true rfl)
def f_X6_holderCalled (p0 : Nat) (p1 : Int32) (M : Mm) : Option (Int32 × Mm) :=
  f_X6_holderCalled_2 FU p0 p1 (0 : Int32) M
set_option maxRecDepth 20000 in
set_option maxHeartbeats 4000000 in
theorem t_X6_holderCalled (p0 : Nat) (p1 : Int32) (M : Mm) (x : Int32) (M' : Mm) (h : f_X6_holderCalled p0 p1 M = some (x, M')) : Ctr yX6_holderCalled cX6_holderCalled 3 (some .int) rX6_holderCalled (fun _ => [.ref p0, .int p1]) M (zI x) M' := by
  refine ctr_of (plainFor_of_name (by decide)) (fun _ => Nat.le_of_ble_eq_true rfl) (fun z hz hin hq => ?_)
  have key : Sim z 0 [(0, .ref p0), (1, .int p1)] [] M 0 0 (f_X6_holderCalled p0 p1 M) (fun a b => a = x ∧ b = M') := by
    have hq : Ret z zI (fun a b => a = x ∧ b = M') := fun a b e => by rw [e.1, e.2]; exact hq
    unfold f_X6_holderCalled
    refine r_iconst (v := 0) hz dX6_holderCalled_0 rfl ?_
    refine r_istore_n (lv' := [(2, .int (0 : Int32)), (0, .ref p0), (1, .int p1)]) hz dX6_holderCalled_1 (by decide) rfl ?_
    refine r_sub [1, 2, 0] rfl ?_
    exact s_X6_holderCalled_2 hz hq FU p0 p1 (0 : Int32) M
  exact key x M' h ⟨rfl, rfl⟩
theorem dX3_newName_0 : decode cX3_newName 0 = .ok (.aload_n 0, 1) := by decide +kernel
theorem dX3_newName_1 : decode cX3_newName 1 = .ok (.invokevirtual 200, 3) := by decide +kernel
theorem dX3_newName_4 : decode cX3_newName 4 = .ok (.ifCond .ne 9, 3) := by decide +kernel
theorem dX3_newName_7 : decode cX3_newName 7 = .ok (.aload_n 0, 1) := by decide +kernel
theorem dX3_newName_8 : decode cX3_newName 8 = .ok (.iconst 1, 1) := by decide +kernel
theorem dX3_newName_9 : decode cX3_newName 9 = .ok (.invokevirtual 86, 3) := by decide +kernel
theorem dX3_newName_12 : decode cX3_newName 12 = .ok (.ireturn, 1) := by decide +kernel
theorem dX3_newName_13 : decode cX3_newName 13 = .ok (.aload_n 0, 1) := by decide +kernel
theorem dX3_newName_14 : decode cX3_newName 14 = .ok (.getfield 25, 3) := by decide +kernel
theorem dX3_newName_17 : decode cX3_newName 17 = .ok (.aload_n 0, 1) := by decide +kernel
theorem dX3_newName_18 : decode cX3_newName 18 = .ok (.getfield 38, 3) := by decide +kernel
theorem dX3_newName_21 : decode cX3_newName 21 = .ok (.invokevirtual 203, 3) := by decide +kernel
theorem dX3_newName_24 : decode cX3_newName 24 = .ok (.iconst (-1), 1) := by decide +kernel
theorem dX3_newName_25 : decode cX3_newName 25 = .ok (.if_icmp .ne 18, 3) := by decide +kernel
theorem dX3_newName_28 : decode cX3_newName 28 = .ok (.aload_n 0, 1) := by decide +kernel
theorem dX3_newName_29 : decode cX3_newName 29 = .ok (.getfield 25, 3) := by decide +kernel
theorem dX3_newName_32 : decode cX3_newName 32 = .ok (.aload_n 0, 1) := by decide +kernel
theorem dX3_newName_33 : decode cX3_newName 33 = .ok (.getfield 38, 3) := by decide +kernel
theorem dX3_newName_36 : decode cX3_newName 36 = .ok (.invokevirtual 207, 3) := by decide +kernel
theorem dX3_newName_39 : decode cX3_newName 39 = .ok (.iconst (-1), 1) := by decide +kernel
theorem dX3_newName_40 : decode cX3_newName 40 = .ok (.if_icmp .eq 9, 3) := by decide +kernel
theorem dX3_newName_43 : decode cX3_newName 43 = .ok (.aload_n 0, 1) := by decide +kernel
theorem dX3_newName_44 : decode cX3_newName 44 = .ok (.iconst 2, 1) := by decide +kernel
theorem dX3_newName_45 : decode cX3_newName 45 = .ok (.invokevirtual 86, 3) := by decide +kernel
theorem dX3_newName_48 : decode cX3_newName 48 = .ok (.ireturn, 1) := by decide +kernel
theorem dX3_newName_49 : decode cX3_newName 49 = .ok (.aload_n 1, 1) := by decide +kernel
theorem dX3_newName_50 : decode cX3_newName 50 = .ok (.iload_n 2, 1) := by decide +kernel
theorem dX3_newName_51 : decode cX3_newName 51 = .ok (.aload_n 0, 1) := by decide +kernel
theorem dX3_newName_52 : decode cX3_newName 52 = .ok (.getfield 38, 3) := by decide +kernel
theorem dX3_newName_55 : decode cX3_newName 55 = .ok (.iastore, 1) := by decide +kernel
theorem dX3_newName_56 : decode cX3_newName 56 = .ok (.aload_n 0, 1) := by decide +kernel
theorem dX3_newName_57 : decode cX3_newName 57 = .ok (.invokevirtual 53, 3) := by decide +kernel
theorem dX3_newName_60 : decode cX3_newName 60 = .ok (.iconst 1, 1) := by decide +kernel
theorem dX3_newName_61 : decode cX3_newName 61 = .ok (.ireturn, 1) := by decide +kernel
abbrev rX3_newName : Room := { frames := 8, cells := 0, slots := 0, locals := 193 }
theorem cal_X3_newName : CalOk yX3_newName cX3_newName 3 (some .boolean) 2 := ⟨wm_3_2, wm_1_4, by decide, by decide, by decide +kernel⟩
def f_X3_newName (p0 : Nat) (p1 : Nat) (p2 : Int32) (M : Mm) : Option (Int32 × Mm) :=
  ck (gK M p0 = 3) (bd (f_X3_isName p0 M) fun v2 M1 =>
  (if ¬ v2 = 0 then
    ck (gK M1 p0 = 3) (bR (gR M1 p0 3) fun q3 => ck (gK M1 p0 = 3) (ck (gK M1 q3 = 6) (bd (f_X6_loanCalled q3 (gI M1 p0 7) M1) fun v5 M4 =>
    (if ¬ v5 = (-1 : Int32) then
      ck (gK M4 p0 = 3) (bd (f_X3_refuse p0 (2 : Int32) M4) fun v7 M6 =>
      ck (v7 = 0 ∨ v7 = 1) (some (v7, M6)))
    else
      ck (gK M4 p0 = 3) (bR (gR M4 p0 3) fun q9 => ck (gK M4 p0 = 3) (ck (gK M4 q9 = 6) (bd (f_X6_holderCalled q9 (gI M4 p0 7) M4) fun v11 M10 =>
      (if v11 = (-1 : Int32) then
        ck (gK M10 p0 = 3) (ck (gK M10 p1 = 10 ∧ inb p2 (gN M10 p1)) (nm (sI M10 p1 (p2).toNatClampNeg (gI M10 p0 7)) fun M12 =>
        ck (gK M12 p0 = 3) (bd (f_X3_advance p0 M12) fun _ M13 =>
        some ((1 : Int32), M13))))
      else
        ck (gK M10 p0 = 3) (bd (f_X3_refuse p0 (2 : Int32) M10) fun v15 M14 =>
        ck (v15 = 0 ∨ v15 = 1) (some (v15, M14)))))))))))
  else
    ck (gK M1 p0 = 3) (bd (f_X3_refuse p0 (1 : Int32) M1) fun v18 M17 =>
    ck (v18 = 0 ∨ v18 = 1) (some (v18, M17)))))
set_option maxRecDepth 20000 in
set_option maxHeartbeats 4000000 in
theorem t_X3_newName (p0 : Nat) (p1 : Nat) (p2 : Int32) (M : Mm) (x : Int32) (M' : Mm) (h : f_X3_newName p0 p1 p2 M = some (x, M')) : Ctr yX3_newName cX3_newName 3 (some .boolean) rX3_newName (fun _ => [.ref p0, .ref p1, .int p2]) M (zI x) M' := by
  refine ctr_of (plainFor_of_name (by decide)) (fun _ => Nat.le_of_ble_eq_true rfl) (fun z hz hin hq => ?_)
  have key : Sim z 0 [(0, .ref p0), (1, .ref p1), (2, .int p2)] [] M 0 0 (f_X3_newName p0 p1 p2 M) (fun a b => a = x ∧ b = M') := by
    have hq : Ret z zI (fun a b => a = x ∧ b = M') := fun a b e => by rw [e.1, e.2]; exact hq
    unfold f_X3_newName
    refine r_aload_n hz dX3_newName_0 0 rfl ?_
    refine r_callVi (As := fun _ => []) cl3 hz (fun _ _ h => t_X3_isName _ _ _ _ h) cal_X3_isName dX3_newName_1 wm_3_3 wm_3_5 wm_p_6 rfl rfl (Nat.le_of_ble_eq_true rfl) ⟨(Nat.le_of_ble_eq_true rfl), (Nat.le_of_ble_eq_true rfl)⟩ ⟨(Nat.le_of_ble_eq_true rfl), (Nat.le_of_ble_eq_true rfl)⟩ (fun v2 M1 => ?_)
    refine r_if_ne (tgt := 13) hz dX3_newName_4 rfl ?_ ?_
    · refine r_aload_n hz dX3_newName_13 0 rfl ?_
      refine r_getR (j := 3) cl3 hz dX3_newName_14 (by decide) wm_1_201 rfl (fun q3 => ?_)
      refine r_aload_n hz dX3_newName_17 0 rfl ?_
      refine r_getI (j := 7) cl3 hz dX3_newName_18 (by decide) wm_1_205 rfl ?_
      refine r_callVi (As := fun _ => [.int (gI M1 p0 7)]) cl6 hz (fun _ _ h => t_X6_loanCalled _ _ _ _ _ h) cal_X6_loanCalled dX3_newName_21 wm_3_20 wm_3_21 wm_3_22 rfl rfl (Nat.le_of_ble_eq_true rfl) ⟨(Nat.le_of_ble_eq_true rfl), (Nat.le_of_ble_eq_true rfl)⟩ ⟨(Nat.le_of_ble_eq_true rfl), (Nat.le_of_ble_eq_true rfl)⟩ (fun v5 M4 => ?_)
      refine r_iconst (v := -1) hz dX3_newName_24 rfl ?_
      refine r_icmp_ne (tgt := 43) hz dX3_newName_25 rfl ?_ ?_
      · refine r_aload_n hz dX3_newName_43 0 rfl ?_
        refine r_iconst (v := 2) hz dX3_newName_44 rfl ?_
        refine r_callVi (As := fun _ => [.int (2 : Int32)]) cl3 hz (fun _ _ h => t_X3_refuse _ _ _ _ _ h) cal_X3_refuse dX3_newName_45 wm_2_235 wm_2_237 wm_p_4 rfl rfl (Nat.le_of_ble_eq_true rfl) ⟨(Nat.le_of_ble_eq_true rfl), (Nat.le_of_ble_eq_true rfl)⟩ ⟨(Nat.le_of_ble_eq_true rfl), (Nat.le_of_ble_eq_true rfl)⟩ (fun v7 M6 => ?_)
        refine r_ck (fun h8 => ?_)
        exact r_zret hz hq dX3_newName_48 h8 (Nat.le_of_ble_eq_true rfl) (Nat.le_of_ble_eq_true rfl)
      · refine r_aload_n hz dX3_newName_28 0 rfl ?_
        refine r_getR (j := 3) cl3 hz dX3_newName_29 (by decide) wm_1_201 rfl (fun q9 => ?_)
        refine r_aload_n hz dX3_newName_32 0 rfl ?_
        refine r_getI (j := 7) cl3 hz dX3_newName_33 (by decide) wm_1_205 rfl ?_
        refine r_callVi (As := fun _ => [.int (gI M4 p0 7)]) cl6 hz (fun _ _ h => t_X6_holderCalled _ _ _ _ _ h) cal_X6_holderCalled dX3_newName_36 wm_3_24 wm_3_25 wm_3_26 rfl rfl (Nat.le_of_ble_eq_true rfl) ⟨(Nat.le_of_ble_eq_true rfl), (Nat.le_of_ble_eq_true rfl)⟩ ⟨(Nat.le_of_ble_eq_true rfl), (Nat.le_of_ble_eq_true rfl)⟩ (fun v11 M10 => ?_)
        refine r_iconst (v := -1) hz dX3_newName_39 rfl ?_
        refine r_icmp_eq (tgt := 49) hz dX3_newName_40 rfl ?_ ?_
        · refine r_aload_n hz dX3_newName_49 1 rfl ?_
          refine r_iload_n hz dX3_newName_50 2 rfl ?_
          refine r_aload_n hz dX3_newName_51 0 rfl ?_
          refine r_getI (j := 7) cl3 hz dX3_newName_52 (by decide) wm_1_205 rfl ?_
          refine r_iast hz dX3_newName_55 ?_
          refine r_nmM (fun M12 => ?_)
          refine r_aload_n hz dX3_newName_56 0 rfl ?_
          refine r_callVv (As := fun _ => []) cl3 hz (fun _ _ h => t_X3_advance _ _ _ _ h) cal_X3_advance dX3_newName_57 wm_2_167 wm_2_169 wm_p_0 rfl rfl (Nat.le_of_ble_eq_true rfl) ⟨(Nat.le_of_ble_eq_true rfl), (Nat.le_of_ble_eq_true rfl)⟩ ⟨(Nat.le_of_ble_eq_true rfl), (Nat.le_of_ble_eq_true rfl)⟩ (fun _ M13 => ?_)
          refine r_iconst (v := 1) hz dX3_newName_60 rfl ?_
          exact r_zret hz hq dX3_newName_61 (Or.inr rfl) (Nat.le_of_ble_eq_true rfl) (Nat.le_of_ble_eq_true rfl)
        · refine r_aload_n hz dX3_newName_43 0 rfl ?_
          refine r_iconst (v := 2) hz dX3_newName_44 rfl ?_
          refine r_callVi (As := fun _ => [.int (2 : Int32)]) cl3 hz (fun _ _ h => t_X3_refuse _ _ _ _ _ h) cal_X3_refuse dX3_newName_45 wm_2_235 wm_2_237 wm_p_4 rfl rfl (Nat.le_of_ble_eq_true rfl) ⟨(Nat.le_of_ble_eq_true rfl), (Nat.le_of_ble_eq_true rfl)⟩ ⟨(Nat.le_of_ble_eq_true rfl), (Nat.le_of_ble_eq_true rfl)⟩ (fun v15 M14 => ?_)
          refine r_ck (fun h16 => ?_)
          exact r_zret hz hq dX3_newName_48 h16 (Nat.le_of_ble_eq_true rfl) (Nat.le_of_ble_eq_true rfl)
    · refine r_aload_n hz dX3_newName_7 0 rfl ?_
      refine r_iconst (v := 1) hz dX3_newName_8 rfl ?_
      refine r_callVi (As := fun _ => [.int (1 : Int32)]) cl3 hz (fun _ _ h => t_X3_refuse _ _ _ _ _ h) cal_X3_refuse dX3_newName_9 wm_2_235 wm_2_237 wm_p_4 rfl rfl (Nat.le_of_ble_eq_true rfl) ⟨(Nat.le_of_ble_eq_true rfl), (Nat.le_of_ble_eq_true rfl)⟩ ⟨(Nat.le_of_ble_eq_true rfl), (Nat.le_of_ble_eq_true rfl)⟩ (fun v18 M17 => ?_)
      refine r_ck (fun h19 => ?_)
      exact r_zret hz hq dX3_newName_12 h19 (Nat.le_of_ble_eq_true rfl) (Nat.le_of_ble_eq_true rfl)
  exact key x M' h ⟨rfl, rfl⟩
theorem dX3_word_0 : decode cX3_word 0 = .ok (.aload_n 0, 1) := by decide +kernel
theorem dX3_word_1 : decode cX3_word 1 = .ok (.aload_n 1, 1) := by decide +kernel
theorem dX3_word_2 : decode cX3_word 2 = .ok (.invokevirtual 58, 3) := by decide +kernel
theorem dX3_word_5 : decode cX3_word 5 = .ok (.ifCond .ne 9, 3) := by decide +kernel
theorem dX3_word_8 : decode cX3_word 8 = .ok (.aload_n 0, 1) := by decide +kernel
theorem dX3_word_9 : decode cX3_word 9 = .ok (.iconst 1, 1) := by decide +kernel
theorem dX3_word_10 : decode cX3_word 10 = .ok (.invokevirtual 86, 3) := by decide +kernel
theorem dX3_word_13 : decode cX3_word 13 = .ok (.ireturn, 1) := by decide +kernel
theorem dX3_word_14 : decode cX3_word 14 = .ok (.aload_n 0, 1) := by decide +kernel
theorem dX3_word_15 : decode cX3_word 15 = .ok (.invokevirtual 53, 3) := by decide +kernel
theorem dX3_word_18 : decode cX3_word 18 = .ok (.iconst 1, 1) := by decide +kernel
theorem dX3_word_19 : decode cX3_word 19 = .ok (.ireturn, 1) := by decide +kernel
abbrev rX3_word : Room := { frames := 7, cells := 0, slots := 0, locals := 173 }
theorem cal_X3_word : CalOk yX3_word cX3_word 2 (some .boolean) 1 := ⟨wm_3_31, wm_1_4, by decide, by decide, by decide +kernel⟩
def f_X3_word (p0 : Nat) (p1 : Nat) (M : Mm) : Option (Int32 × Mm) :=
  ck (gK M p0 = 3) (bd (f_X3_spells p0 p1 M) fun v2 M1 =>
  (if ¬ v2 = 0 then
    ck (gK M1 p0 = 3) (bd (f_X3_advance p0 M1) fun _ M3 =>
    some ((1 : Int32), M3))
  else
    ck (gK M1 p0 = 3) (bd (f_X3_refuse p0 (1 : Int32) M1) fun v5 M4 =>
    ck (v5 = 0 ∨ v5 = 1) (some (v5, M4)))))
set_option maxRecDepth 20000 in
set_option maxHeartbeats 4000000 in
theorem t_X3_word (p0 : Nat) (p1 : Nat) (M : Mm) (x : Int32) (M' : Mm) (h : f_X3_word p0 p1 M = some (x, M')) : Ctr yX3_word cX3_word 2 (some .boolean) rX3_word (fun g => [.ref p0, .ref (g.2.2.2.1 p1)]) M (zI x) M' := by
  refine ctr_of (plainFor_of_name (by decide)) (fun _ => Nat.le_of_ble_eq_true rfl) (fun z hz hin hq => ?_)
  have key : Sim z 0 [(0, .ref p0), (1, .ref (zS z p1))] [] M 0 0 (f_X3_word p0 p1 M) (fun a b => a = x ∧ b = M') := by
    have hq : Ret z zI (fun a b => a = x ∧ b = M') := fun a b e => by rw [e.1, e.2]; exact hq
    unfold f_X3_word
    refine r_aload_n hz dX3_word_0 0 rfl ?_
    refine r_aload_n hz dX3_word_1 1 rfl ?_
    refine r_callVi (As := fun g => [.ref (g.2.2.2.1 p1)]) cl3 hz (fun _ _ h => t_X3_spells _ _ _ _ _ h) cal_X3_spells dX3_word_2 wm_2_179 wm_2_181 wm_p_2 rfl rfl (Nat.le_of_ble_eq_true rfl) ⟨(Nat.le_of_ble_eq_true rfl), (Nat.le_of_ble_eq_true rfl)⟩ ⟨(Nat.le_of_ble_eq_true rfl), (Nat.le_of_ble_eq_true rfl)⟩ (fun v2 M1 => ?_)
    refine r_if_ne (tgt := 14) hz dX3_word_5 rfl ?_ ?_
    · refine r_aload_n hz dX3_word_14 0 rfl ?_
      refine r_callVv (As := fun _ => []) cl3 hz (fun _ _ h => t_X3_advance _ _ _ _ h) cal_X3_advance dX3_word_15 wm_2_167 wm_2_169 wm_p_0 rfl rfl (Nat.le_of_ble_eq_true rfl) ⟨(Nat.le_of_ble_eq_true rfl), (Nat.le_of_ble_eq_true rfl)⟩ ⟨(Nat.le_of_ble_eq_true rfl), (Nat.le_of_ble_eq_true rfl)⟩ (fun _ M3 => ?_)
      refine r_iconst (v := 1) hz dX3_word_18 rfl ?_
      exact r_zret hz hq dX3_word_19 (Or.inr rfl) (Nat.le_of_ble_eq_true rfl) (Nat.le_of_ble_eq_true rfl)
    · refine r_aload_n hz dX3_word_8 0 rfl ?_
      refine r_iconst (v := 1) hz dX3_word_9 rfl ?_
      refine r_callVi (As := fun _ => [.int (1 : Int32)]) cl3 hz (fun _ _ h => t_X3_refuse _ _ _ _ _ h) cal_X3_refuse dX3_word_10 wm_2_235 wm_2_237 wm_p_4 rfl rfl (Nat.le_of_ble_eq_true rfl) ⟨(Nat.le_of_ble_eq_true rfl), (Nat.le_of_ble_eq_true rfl)⟩ ⟨(Nat.le_of_ble_eq_true rfl), (Nat.le_of_ble_eq_true rfl)⟩ (fun v5 M4 => ?_)
      refine r_ck (fun h6 => ?_)
      exact r_zret hz hq dX3_word_13 h6 (Nat.le_of_ble_eq_true rfl) (Nat.le_of_ble_eq_true rfl)
  exact key x M' h ⟨rfl, rfl⟩
theorem dX3_fits_0 : decode cX3_fits 0 = .ok (.aload_n 0, 1) := by decide +kernel
theorem dX3_fits_1 : decode cX3_fits 1 = .ok (.getfield 29, 3) := by decide +kernel
theorem dX3_fits_4 : decode cX3_fits 4 = .ok (.iconst 2, 1) := by decide +kernel
theorem dX3_fits_5 : decode cX3_fits 5 = .ok (.if_icmp .eq 9, 3) := by decide +kernel
theorem dX3_fits_8 : decode cX3_fits 8 = .ok (.aload_n 0, 1) := by decide +kernel
theorem dX3_fits_9 : decode cX3_fits 9 = .ok (.iconst 1, 1) := by decide +kernel
theorem dX3_fits_10 : decode cX3_fits 10 = .ok (.invokevirtual 86, 3) := by decide +kernel
theorem dX3_fits_13 : decode cX3_fits 13 = .ok (.ireturn, 1) := by decide +kernel
theorem dX3_fits_14 : decode cX3_fits 14 = .ok (.aload_n 0, 1) := by decide +kernel
theorem dX3_fits_15 : decode cX3_fits 15 = .ok (.getfield 38, 3) := by decide +kernel
theorem dX3_fits_18 : decode cX3_fits 18 = .ok (.iload_n 1, 1) := by decide +kernel
theorem dX3_fits_19 : decode cX3_fits 19 = .ok (.if_icmp .lt 15, 3) := by decide +kernel
theorem dX3_fits_22 : decode cX3_fits 22 = .ok (.aload_n 0, 1) := by decide +kernel
theorem dX3_fits_23 : decode cX3_fits 23 = .ok (.getfield 38, 3) := by decide +kernel
theorem dX3_fits_26 : decode cX3_fits 26 = .ok (.iload_n 2, 1) := by decide +kernel
theorem dX3_fits_27 : decode cX3_fits 27 = .ok (.if_icmp .gt 7, 3) := by decide +kernel
theorem dX3_fits_30 : decode cX3_fits 30 = .ok (.iconst 1, 1) := by decide +kernel
theorem dX3_fits_31 : decode cX3_fits 31 = .ok (.goto 8, 3) := by decide +kernel
theorem dX3_fits_34 : decode cX3_fits 34 = .ok (.aload_n 0, 1) := by decide +kernel
theorem dX3_fits_35 : decode cX3_fits 35 = .ok (.iconst 4, 1) := by decide +kernel
theorem dX3_fits_36 : decode cX3_fits 36 = .ok (.invokevirtual 86, 3) := by decide +kernel
theorem dX3_fits_39 : decode cX3_fits 39 = .ok (.ireturn, 1) := by decide +kernel
abbrev rX3_fits : Room := { frames := 1, cells := 0, slots := 0, locals := 21 }
theorem cal_X3_fits : CalOk yX3_fits cX3_fits 3 (some .boolean) 2 := ⟨wm_3_39, wm_1_4, by decide, by decide, by decide +kernel⟩
def f_X3_fits (p0 : Nat) (p1 : Int32) (p2 : Int32) (M : Mm) : Option (Int32 × Mm) :=
  ck (gK M p0 = 3) ((if (gI M p0 4) = (2 : Int32) then
    ck (gK M p0 = 3) ((if (gI M p0 7) < p1 then
      ck (gK M p0 = 3) (bd (f_X3_refuse p0 (4 : Int32) M) fun v2 M1 =>
      ck (v2 = 0 ∨ v2 = 1) (some (v2, M1)))
    else
      ck (gK M p0 = 3) ((if p2 < (gI M p0 7) then
        ck (gK M p0 = 3) (bd (f_X3_refuse p0 (4 : Int32) M) fun v5 M4 =>
        ck (v5 = 0 ∨ v5 = 1) (some (v5, M4)))
      else
        some ((1 : Int32), M)))))
  else
    ck (gK M p0 = 3) (bd (f_X3_refuse p0 (1 : Int32) M) fun v8 M7 =>
    ck (v8 = 0 ∨ v8 = 1) (some (v8, M7)))))
set_option maxRecDepth 20000 in
set_option maxHeartbeats 4000000 in
theorem t_X3_fits (p0 : Nat) (p1 : Int32) (p2 : Int32) (M : Mm) (x : Int32) (M' : Mm) (h : f_X3_fits p0 p1 p2 M = some (x, M')) : Ctr yX3_fits cX3_fits 3 (some .boolean) rX3_fits (fun _ => [.ref p0, .int p1, .int p2]) M (zI x) M' := by
  refine ctr_of (plainFor_of_name (by decide)) (fun _ => Nat.le_of_ble_eq_true rfl) (fun z hz hin hq => ?_)
  have key : Sim z 0 [(0, .ref p0), (1, .int p1), (2, .int p2)] [] M 0 0 (f_X3_fits p0 p1 p2 M) (fun a b => a = x ∧ b = M') := by
    have hq : Ret z zI (fun a b => a = x ∧ b = M') := fun a b e => by rw [e.1, e.2]; exact hq
    unfold f_X3_fits
    refine r_aload_n hz dX3_fits_0 0 rfl ?_
    refine r_getI (j := 4) cl3 hz dX3_fits_1 (by decide) wm_1_202 rfl ?_
    refine r_iconst (v := 2) hz dX3_fits_4 rfl ?_
    refine r_icmp_eq (tgt := 14) hz dX3_fits_5 rfl ?_ ?_
    · refine r_aload_n hz dX3_fits_14 0 rfl ?_
      refine r_getI (j := 7) cl3 hz dX3_fits_15 (by decide) wm_1_205 rfl ?_
      refine r_iload_n hz dX3_fits_18 1 rfl ?_
      refine r_icmp_lt (tgt := 34) hz dX3_fits_19 rfl ?_ ?_
      · refine r_aload_n hz dX3_fits_34 0 rfl ?_
        refine r_iconst (v := 4) hz dX3_fits_35 rfl ?_
        refine r_callVi (As := fun _ => [.int (4 : Int32)]) cl3 hz (fun _ _ h => t_X3_refuse _ _ _ _ _ h) cal_X3_refuse dX3_fits_36 wm_2_235 wm_2_237 wm_p_4 rfl rfl (Nat.le_of_ble_eq_true rfl) ⟨(Nat.le_of_ble_eq_true rfl), (Nat.le_of_ble_eq_true rfl)⟩ ⟨(Nat.le_of_ble_eq_true rfl), (Nat.le_of_ble_eq_true rfl)⟩ (fun v2 M1 => ?_)
        refine r_ck (fun h3 => ?_)
        exact r_zret hz hq dX3_fits_39 h3 (Nat.le_of_ble_eq_true rfl) (Nat.le_of_ble_eq_true rfl)
      · refine r_aload_n hz dX3_fits_22 0 rfl ?_
        refine r_getI (j := 7) cl3 hz dX3_fits_23 (by decide) wm_1_205 rfl ?_
        refine r_iload_n hz dX3_fits_26 2 rfl ?_
        refine r_icmp_gt (tgt := 34) hz dX3_fits_27 rfl ?_ ?_
        · refine r_aload_n hz dX3_fits_34 0 rfl ?_
          refine r_iconst (v := 4) hz dX3_fits_35 rfl ?_
          refine r_callVi (As := fun _ => [.int (4 : Int32)]) cl3 hz (fun _ _ h => t_X3_refuse _ _ _ _ _ h) cal_X3_refuse dX3_fits_36 wm_2_235 wm_2_237 wm_p_4 rfl rfl (Nat.le_of_ble_eq_true rfl) ⟨(Nat.le_of_ble_eq_true rfl), (Nat.le_of_ble_eq_true rfl)⟩ ⟨(Nat.le_of_ble_eq_true rfl), (Nat.le_of_ble_eq_true rfl)⟩ (fun v5 M4 => ?_)
          refine r_ck (fun h6 => ?_)
          exact r_zret hz hq dX3_fits_39 h6 (Nat.le_of_ble_eq_true rfl) (Nat.le_of_ble_eq_true rfl)
        · refine r_iconst (v := 1) hz dX3_fits_30 rfl ?_
          refine r_goto (tgt := 39) hz dX3_fits_31 rfl ?_
          exact r_zret hz hq dX3_fits_39 (Or.inr rfl) (Nat.le_of_ble_eq_true rfl) (Nat.le_of_ble_eq_true rfl)
    · refine r_aload_n hz dX3_fits_8 0 rfl ?_
      refine r_iconst (v := 1) hz dX3_fits_9 rfl ?_
      refine r_callVi (As := fun _ => [.int (1 : Int32)]) cl3 hz (fun _ _ h => t_X3_refuse _ _ _ _ _ h) cal_X3_refuse dX3_fits_10 wm_2_235 wm_2_237 wm_p_4 rfl rfl (Nat.le_of_ble_eq_true rfl) ⟨(Nat.le_of_ble_eq_true rfl), (Nat.le_of_ble_eq_true rfl)⟩ ⟨(Nat.le_of_ble_eq_true rfl), (Nat.le_of_ble_eq_true rfl)⟩ (fun v8 M7 => ?_)
      refine r_ck (fun h9 => ?_)
      exact r_zret hz hq dX3_fits_13 h9 (Nat.le_of_ble_eq_true rfl) (Nat.le_of_ble_eq_true rfl)
  exact key x M' h ⟨rfl, rfl⟩
