theorem dX5_init_0 : decode cX5_init 0 = .ok (.aload_n 0, 1) := by decide +kernel
theorem dX5_init_1 : decode cX5_init 1 = .ok (.invokespecial 3, 3) := by decide +kernel
theorem dX5_init_4 : decode cX5_init 4 = .ok (.aload_n 0, 1) := by decide +kernel
theorem dX5_init_5 : decode cX5_init 5 = .ok (.iconst 0, 1) := by decide +kernel
theorem dX5_init_6 : decode cX5_init 6 = .ok (.putfield 9, 3) := by decide +kernel
theorem dX5_init_9 : decode cX5_init 9 = .ok (.aload_n 0, 1) := by decide +kernel
theorem dX5_init_10 : decode cX5_init 10 = .ok (.bipush 6, 2) := by decide +kernel
theorem dX5_init_12 : decode cX5_init 12 = .ok (.newarray .int, 2) := by decide +kernel
theorem dX5_init_14 : decode cX5_init 14 = .ok (.putfield 15, 3) := by decide +kernel
theorem dX5_init_17 : decode cX5_init 17 = .ok (.aload_n 0, 1) := by decide +kernel
theorem dX5_init_18 : decode cX5_init 18 = .ok (.iconst 4, 1) := by decide +kernel
theorem dX5_init_19 : decode cX5_init 19 = .ok (.newarray .int, 2) := by decide +kernel
theorem dX5_init_21 : decode cX5_init 21 = .ok (.putfield 19, 3) := by decide +kernel
theorem dX5_init_24 : decode cX5_init 24 = .ok (.aload_n 0, 1) := by decide +kernel
theorem dX5_init_25 : decode cX5_init 25 = .ok (.iconst 4, 1) := by decide +kernel
theorem dX5_init_26 : decode cX5_init 26 = .ok (.newarray .int, 2) := by decide +kernel
theorem dX5_init_28 : decode cX5_init 28 = .ok (.putfield 22, 3) := by decide +kernel
theorem dX5_init_31 : decode cX5_init 31 = .ok (.aload_n 0, 1) := by decide +kernel
theorem dX5_init_32 : decode cX5_init 32 = .ok (.bipush 84, 2) := by decide +kernel
theorem dX5_init_34 : decode cX5_init 34 = .ok (.newarray .int, 2) := by decide +kernel
theorem dX5_init_36 : decode cX5_init 36 = .ok (.putfield 25, 3) := by decide +kernel
theorem dX5_init_39 : decode cX5_init 39 = .ok (.aload_n 0, 1) := by decide +kernel
theorem dX5_init_40 : decode cX5_init 40 = .ok (.bipush 84, 2) := by decide +kernel
theorem dX5_init_42 : decode cX5_init 42 = .ok (.newarray .int, 2) := by decide +kernel
theorem dX5_init_44 : decode cX5_init 44 = .ok (.putfield 28, 3) := by decide +kernel
theorem dX5_init_47 : decode cX5_init 47 = .ok (.aload_n 0, 1) := by decide +kernel
theorem dX5_init_48 : decode cX5_init 48 = .ok (.sipush 240, 3) := by decide +kernel
theorem dX5_init_51 : decode cX5_init 51 = .ok (.newarray .int, 2) := by decide +kernel
theorem dX5_init_53 : decode cX5_init 53 = .ok (.putfield 31, 3) := by decide +kernel
theorem dX5_init_56 : decode cX5_init 56 = .ok (.aload_n 0, 1) := by decide +kernel
theorem dX5_init_57 : decode cX5_init 57 = .ok (.sipush 240, 3) := by decide +kernel
theorem dX5_init_60 : decode cX5_init 60 = .ok (.newarray .int, 2) := by decide +kernel
theorem dX5_init_62 : decode cX5_init 62 = .ok (.putfield 34, 3) := by decide +kernel
theorem dX5_init_65 : decode cX5_init 65 = .ok (.aload_n 0, 1) := by decide +kernel
theorem dX5_init_66 : decode cX5_init 66 = .ok (.sipush 240, 3) := by decide +kernel
theorem dX5_init_69 : decode cX5_init 69 = .ok (.newarray .int, 2) := by decide +kernel
theorem dX5_init_71 : decode cX5_init 71 = .ok (.putfield 37, 3) := by decide +kernel
theorem dX5_init_74 : decode cX5_init 74 = .ok (.aload_n 0, 1) := by decide +kernel
theorem dX5_init_75 : decode cX5_init 75 = .ok (.sipush 240, 3) := by decide +kernel
theorem dX5_init_78 : decode cX5_init 78 = .ok (.newarray .int, 2) := by decide +kernel
theorem dX5_init_80 : decode cX5_init 80 = .ok (.putfield 40, 3) := by decide +kernel
theorem dX5_init_83 : decode cX5_init 83 = .ok (.return_, 1) := by decide +kernel
abbrev rX5_init : Room := { frames := 1, cells := 9, slots := 1142, locals := 20 }
theorem cal_X5_init : CalOk yX5_init cX5_init 1 none 0 := ⟨wm_1_138, wm_1_3, by decide, by decide, by decide +kernel⟩
def f_X5_init (p0 : Nat) (M : Mm) : Option (Unit × Mm) :=
  ck (gK M p0 = 5) (nm (sI M p0 0 (0 : Int32)) fun M1 =>
  nm (gT M1) fun q2 => nm (sN M1 10 6) fun M3 =>
  ck (gK M3 p0 = 5) (nm (sR M3 p0 1 (some q2)) fun M4 =>
  nm (gT M4) fun q5 => nm (sN M4 10 4) fun M6 =>
  ck (gK M6 p0 = 5) (nm (sR M6 p0 2 (some q5)) fun M7 =>
  nm (gT M7) fun q8 => nm (sN M7 10 4) fun M9 =>
  ck (gK M9 p0 = 5) (nm (sR M9 p0 3 (some q8)) fun M10 =>
  nm (gT M10) fun q11 => nm (sN M10 10 84) fun M12 =>
  ck (gK M12 p0 = 5) (nm (sR M12 p0 4 (some q11)) fun M13 =>
  nm (gT M13) fun q14 => nm (sN M13 10 84) fun M15 =>
  ck (gK M15 p0 = 5) (nm (sR M15 p0 5 (some q14)) fun M16 =>
  nm (gT M16) fun q17 => nm (sN M16 10 240) fun M18 =>
  ck (gK M18 p0 = 5) (nm (sR M18 p0 6 (some q17)) fun M19 =>
  nm (gT M19) fun q20 => nm (sN M19 10 240) fun M21 =>
  ck (gK M21 p0 = 5) (nm (sR M21 p0 7 (some q20)) fun M22 =>
  nm (gT M22) fun q23 => nm (sN M22 10 240) fun M24 =>
  ck (gK M24 p0 = 5) (nm (sR M24 p0 8 (some q23)) fun M25 =>
  nm (gT M25) fun q26 => nm (sN M25 10 240) fun M27 =>
  ck (gK M27 p0 = 5) (nm (sR M27 p0 9 (some q26)) fun M28 =>
  some ((), M28)))))))))))
set_option maxRecDepth 20000 in
set_option maxHeartbeats 4000000 in
theorem t_X5_init (p0 : Nat) (M : Mm) (x : Unit) (M' : Mm) (h : f_X5_init p0 M = some (x, M')) : Ctr yX5_init cX5_init 1 none rX5_init (fun _ => [.ref p0]) M (zU x) M' := by
  refine ctr_of (plainFor_of_name (by decide)) (fun _ => Nat.le_of_ble_eq_true rfl) (fun z hz hin hq => ?_)
  have key : Sim z 0 [(0, .ref p0)] [] M 0 0 (f_X5_init p0 M) (fun a b => a = x ∧ b = M') := by
    have hq : Ret z zU (fun a b => a = x ∧ b = M') := fun a b e => by rw [e.1, e.2]; exact hq
    have hin := hin rfl
    unfold f_X5_init
    refine r_aload_n hz dX5_init_0 0 rfl ?_
    refine r_objInit hz dX5_init_1 wm_1_139 wm_1_27 wm_1_28 (Nat.le_of_ble_eq_true rfl) (Nat.le_of_ble_eq_true rfl) ?_
    refine r_aload_n hz dX5_init_4 0 rfl ?_
    refine r_iconst (v := 0) hz dX5_init_5 rfl ?_
    refine r_putI (j := 0) cl5 hz dX5_init_6 (by decide) wm_1_140 (Or.inl rfl) rfl rfl rfl ?_
    refine r_nmM (fun M1 => ?_)
    refine r_aload_n hz dX5_init_9 0 rfl ?_
    refine r_bipush (v := 6) hz dX5_init_10 rfl ?_
    refine r_newI (len := 6) hz dX5_init_12 wm_1_133 rfl (by decide) (Nat.le_of_ble_eq_true rfl) (Nat.le_of_ble_eq_true rfl) (Nat.le_of_ble_eq_true rfl) ?_
    refine r_nma (fun q2 => ?_)
    refine r_nmM (fun M3 => ?_)
    refine r_putR (j := 1) cl5 hz dX5_init_14 (by decide) wm_1_143 (Or.inr ⟨rfl, hin⟩) rfl rfl rfl ?_
    refine r_nmM (fun M4 => ?_)
    refine r_aload_n hz dX5_init_17 0 rfl ?_
    refine r_iconst (v := 4) hz dX5_init_18 rfl ?_
    refine r_newI (len := 4) hz dX5_init_19 wm_1_133 rfl (by decide) (Nat.le_of_ble_eq_true rfl) (Nat.le_of_ble_eq_true rfl) (Nat.le_of_ble_eq_true rfl) ?_
    refine r_nma (fun q5 => ?_)
    refine r_nmM (fun M6 => ?_)
    refine r_putR (j := 2) cl5 hz dX5_init_21 (by decide) wm_1_145 (Or.inr ⟨rfl, hin⟩) rfl rfl rfl ?_
    refine r_nmM (fun M7 => ?_)
    refine r_aload_n hz dX5_init_24 0 rfl ?_
    refine r_iconst (v := 4) hz dX5_init_25 rfl ?_
    refine r_newI (len := 4) hz dX5_init_26 wm_1_133 rfl (by decide) (Nat.le_of_ble_eq_true rfl) (Nat.le_of_ble_eq_true rfl) (Nat.le_of_ble_eq_true rfl) ?_
    refine r_nma (fun q8 => ?_)
    refine r_nmM (fun M9 => ?_)
    refine r_putR (j := 3) cl5 hz dX5_init_28 (by decide) wm_1_147 (Or.inr ⟨rfl, hin⟩) rfl rfl rfl ?_
    refine r_nmM (fun M10 => ?_)
    refine r_aload_n hz dX5_init_31 0 rfl ?_
    refine r_bipush (v := 84) hz dX5_init_32 rfl ?_
    refine r_newI (len := 84) hz dX5_init_34 wm_1_133 rfl (by decide) (Nat.le_of_ble_eq_true rfl) (Nat.le_of_ble_eq_true rfl) (Nat.le_of_ble_eq_true rfl) ?_
    refine r_nma (fun q11 => ?_)
    refine r_nmM (fun M12 => ?_)
    refine r_putR (j := 4) cl5 hz dX5_init_36 (by decide) wm_1_150 (Or.inr ⟨rfl, hin⟩) rfl rfl rfl ?_
    refine r_nmM (fun M13 => ?_)
    refine r_aload_n hz dX5_init_39 0 rfl ?_
    refine r_bipush (v := 84) hz dX5_init_40 rfl ?_
    refine r_newI (len := 84) hz dX5_init_42 wm_1_133 rfl (by decide) (Nat.le_of_ble_eq_true rfl) (Nat.le_of_ble_eq_true rfl) (Nat.le_of_ble_eq_true rfl) ?_
    refine r_nma (fun q14 => ?_)
    refine r_nmM (fun M15 => ?_)
    refine r_putR (j := 5) cl5 hz dX5_init_44 (by decide) wm_1_153 (Or.inr ⟨rfl, hin⟩) rfl rfl rfl ?_
    refine r_nmM (fun M16 => ?_)
    refine r_aload_n hz dX5_init_47 0 rfl ?_
    refine r_sipush (v := 240) hz dX5_init_48 rfl ?_
    refine r_newI (len := 240) hz dX5_init_51 wm_1_133 rfl (by decide) (Nat.le_of_ble_eq_true rfl) (Nat.le_of_ble_eq_true rfl) (Nat.le_of_ble_eq_true rfl) ?_
    refine r_nma (fun q17 => ?_)
    refine r_nmM (fun M18 => ?_)
    refine r_putR (j := 6) cl5 hz dX5_init_53 (by decide) wm_1_155 (Or.inr ⟨rfl, hin⟩) rfl rfl rfl ?_
    refine r_nmM (fun M19 => ?_)
    refine r_aload_n hz dX5_init_56 0 rfl ?_
    refine r_sipush (v := 240) hz dX5_init_57 rfl ?_
    refine r_newI (len := 240) hz dX5_init_60 wm_1_133 rfl (by decide) (Nat.le_of_ble_eq_true rfl) (Nat.le_of_ble_eq_true rfl) (Nat.le_of_ble_eq_true rfl) ?_
    refine r_nma (fun q20 => ?_)
    refine r_nmM (fun M21 => ?_)
    refine r_putR (j := 7) cl5 hz dX5_init_62 (by decide) wm_1_158 (Or.inr ⟨rfl, hin⟩) rfl rfl rfl ?_
    refine r_nmM (fun M22 => ?_)
    refine r_aload_n hz dX5_init_65 0 rfl ?_
    refine r_sipush (v := 240) hz dX5_init_66 rfl ?_
    refine r_newI (len := 240) hz dX5_init_69 wm_1_133 rfl (by decide) (Nat.le_of_ble_eq_true rfl) (Nat.le_of_ble_eq_true rfl) (Nat.le_of_ble_eq_true rfl) ?_
    refine r_nma (fun q23 => ?_)
    refine r_nmM (fun M24 => ?_)
    refine r_putR (j := 8) cl5 hz dX5_init_71 (by decide) wm_1_161 (Or.inr ⟨rfl, hin⟩) rfl rfl rfl ?_
    refine r_nmM (fun M25 => ?_)
    refine r_aload_n hz dX5_init_74 0 rfl ?_
    refine r_sipush (v := 240) hz dX5_init_75 rfl ?_
    refine r_newI (len := 240) hz dX5_init_78 wm_1_133 rfl (by decide) (Nat.le_of_ble_eq_true rfl) (Nat.le_of_ble_eq_true rfl) (Nat.le_of_ble_eq_true rfl) ?_
    refine r_nma (fun q26 => ?_)
    refine r_nmM (fun M27 => ?_)
    refine r_putR (j := 9) cl5 hz dX5_init_80 (by decide) wm_1_165 (Or.inr ⟨rfl, hin⟩) rfl rfl rfl ?_
    refine r_nmM (fun M28 => ?_)
    exact r_vret hz hq dX5_init_83 (Nat.le_of_ble_eq_true rfl) (Nat.le_of_ble_eq_true rfl)
  exact key x M' h ⟨rfl, rfl⟩
theorem dX5_beginPrices_0 : decode cX5_beginPrices 0 = .ok (.iconst 1, 1) := by decide +kernel
theorem dX5_beginPrices_1 : decode cX5_beginPrices 1 = .ok (.istore_n 3, 1) := by decide +kernel
theorem dX5_beginPrices_2 : decode cX5_beginPrices 2 = .ok (.iload_n 3, 1) := by decide +kernel
theorem dX5_beginPrices_3 : decode cX5_beginPrices 3 = .ok (.aload_n 1, 1) := by decide +kernel
theorem dX5_beginPrices_4 : decode cX5_beginPrices 4 = .ok (.getfield 66, 3) := by decide +kernel
theorem dX5_beginPrices_7 : decode cX5_beginPrices 7 = .ok (.iload_n 2, 1) := by decide +kernel
theorem dX5_beginPrices_8 : decode cX5_beginPrices 8 = .ok (.iaload, 1) := by decide +kernel
theorem dX5_beginPrices_9 : decode cX5_beginPrices 9 = .ok (.if_icmp .gt 49, 3) := by decide +kernel
theorem dX5_beginPrices_12 : decode cX5_beginPrices 12 = .ok (.iload_n 2, 1) := by decide +kernel
theorem dX5_beginPrices_13 : decode cX5_beginPrices 13 = .ok (.iload_n 3, 1) := by decide +kernel
theorem dX5_beginPrices_14 : decode cX5_beginPrices 14 = .ok (.invokestatic 69, 3) := by decide +kernel
theorem dX5_beginPrices_17 : decode cX5_beginPrices 17 = .ok (.istore 4, 2) := by decide +kernel
theorem dX5_beginPrices_19 : decode cX5_beginPrices 19 = .ok (.aload_n 0, 1) := by decide +kernel
theorem dX5_beginPrices_20 : decode cX5_beginPrices 20 = .ok (.getfield 25, 3) := by decide +kernel
theorem dX5_beginPrices_23 : decode cX5_beginPrices 23 = .ok (.iload 4, 2) := by decide +kernel
theorem dX5_beginPrices_25 : decode cX5_beginPrices 25 = .ok (.aload_n 1, 1) := by decide +kernel
theorem dX5_beginPrices_26 : decode cX5_beginPrices 26 = .ok (.getfield 73, 3) := by decide +kernel
theorem dX5_beginPrices_29 : decode cX5_beginPrices 29 = .ok (.iload 4, 2) := by decide +kernel
theorem dX5_beginPrices_31 : decode cX5_beginPrices 31 = .ok (.iaload, 1) := by decide +kernel
theorem dX5_beginPrices_32 : decode cX5_beginPrices 32 = .ok (.ifCond .ne 12, 3) := by decide +kernel
theorem dX5_beginPrices_35 : decode cX5_beginPrices 35 = .ok (.aload_n 1, 1) := by decide +kernel
theorem dX5_beginPrices_36 : decode cX5_beginPrices 36 = .ok (.getfield 74, 3) := by decide +kernel
theorem dX5_beginPrices_39 : decode cX5_beginPrices 39 = .ok (.iload_n 2, 1) := by decide +kernel
theorem dX5_beginPrices_40 : decode cX5_beginPrices 40 = .ok (.iaload, 1) := by decide +kernel
theorem dX5_beginPrices_41 : decode cX5_beginPrices 41 = .ok (.goto 10, 3) := by decide +kernel
theorem dX5_beginPrices_44 : decode cX5_beginPrices 44 = .ok (.aload_n 1, 1) := by decide +kernel
theorem dX5_beginPrices_45 : decode cX5_beginPrices 45 = .ok (.getfield 73, 3) := by decide +kernel
theorem dX5_beginPrices_48 : decode cX5_beginPrices 48 = .ok (.iload 4, 2) := by decide +kernel
theorem dX5_beginPrices_50 : decode cX5_beginPrices 50 = .ok (.iaload, 1) := by decide +kernel
theorem dX5_beginPrices_51 : decode cX5_beginPrices 51 = .ok (.iastore, 1) := by decide +kernel
theorem dX5_beginPrices_52 : decode cX5_beginPrices 52 = .ok (.iinc 3 1, 3) := by decide +kernel
theorem dX5_beginPrices_55 : decode cX5_beginPrices 55 = .ok (.goto (-53), 3) := by decide +kernel
theorem dX5_beginPrices_58 : decode cX5_beginPrices 58 = .ok (.return_, 1) := by decide +kernel
abbrev rX5_beginPrices : Room := { frames := 1, cells := 0, slots := 0, locals := 21 }
theorem cal_X5_beginPrices : CalOk yX5_beginPrices cX5_beginPrices 5 none 2 := ⟨wm_3_117, wm_1_3, by decide, by decide, by decide +kernel⟩
def f_X5_beginPrices_2 : Nat → Nat → Nat → Int32 → Int32 → Mm → Option (Unit × Mm)
  | 0, _, _, _, _, _ => none
  | n + 1, x0, x1, x2, x3, M =>
    ck (gK M x1 = 6) (bR (gR M x1 9) fun q1 => ck (gK M q1 = 10 ∧ inb x2 (gN M q1)) ((if (gI M q1 (x2).toNatClampNeg) < x3 then
      some ((), M)
    else
      bd (f_X7_cellOf x2 x3 M) fun v3 M2 =>
      ck (gK M2 x0 = 5) (bR (gR M2 x0 4) fun q4 => ck (gK M2 x1 = 6) (bR (gR M2 x1 17) fun q5 => ck (gK M2 q5 = 10 ∧ inb v3 (gN M2 q5)) ((if ¬ (gI M2 q5 (v3).toNatClampNeg) = 0 then
        ck (gK M2 x1 = 6) (bR (gR M2 x1 17) fun q6 => ck (gK M2 q6 = 10 ∧ inb v3 (gN M2 q6)) (ck (gK M2 q4 = 10 ∧ inb v3 (gN M2 q4)) (nm (sI M2 q4 (v3).toNatClampNeg (gI M2 q6 (v3).toNatClampNeg)) fun M7 =>
        f_X5_beginPrices_2 n x0 x1 x2 (x3 + (1 : Int32)) M7)))
      else
        ck (gK M2 x1 = 6) (bR (gR M2 x1 7) fun q9 => ck (gK M2 q9 = 10 ∧ inb x2 (gN M2 q9)) (ck (gK M2 q4 = 10 ∧ inb v3 (gN M2 q4)) (nm (sI M2 q4 (v3).toNatClampNeg (gI M2 q9 (x2).toNatClampNeg)) fun M10 =>
        f_X5_beginPrices_2 n x0 x1 x2 (x3 + (1 : Int32)) M10))))))))))
set_option maxRecDepth 20000 in
set_option maxHeartbeats 4000000 in
theorem s_X5_beginPrices_2 {z : Zt} {K : Unit → Mm → Prop} (hz : Good z RX5 cX5_beginPrices 5 rX5_beginPrices none) (hq : Ret z zU K) : ∀ (n : Nat) (x0 : Nat) (x1 : Nat) (x2 : Int32) (x3 : Int32) (M : Mm), Sim z 2 [(0, .ref x0), (1, .ref x1), (2, .int x2), (3, .int x3)] [] M 0 0 (f_X5_beginPrices_2 n x0 x1 x2 x3 M) K := by
  intro n
  induction n with
  | zero => exact fun _ _ _ _ _ => r_none
  | succ n ih =>
    intro x0 x1 x2 x3 M
    unfold f_X5_beginPrices_2
    refine r_iload_n hz dX5_beginPrices_2 3 rfl ?_
    refine r_aload_n hz dX5_beginPrices_3 1 rfl ?_
    refine r_getR (j := 9) cl6 hz dX5_beginPrices_4 (by decide) wm_1_68 rfl (fun q1 => ?_)
    refine r_iload_n hz dX5_beginPrices_7 2 rfl ?_
    refine r_iald hz dX5_beginPrices_8 ?_
    refine r_icmp_gt (tgt := 58) hz dX5_beginPrices_9 rfl ?_ ?_
    · exact r_vret hz hq dX5_beginPrices_58 (Nat.le_of_ble_eq_true rfl) (Nat.le_of_ble_eq_true rfl)
    · refine r_iload_n hz dX5_beginPrices_12 2 rfl ?_
      refine r_iload_n hz dX5_beginPrices_13 3 rfl ?_
      refine r_callSNi (As := fun _ => [.int x2, .int x3]) (host := "DrawnBonds") hz (fun _ _ h => t_X7_cellOf _ _ _ _ _ h) cal_X7_cellOf dX5_beginPrices_14 (List.mem_of_getElem? (i := 10) rfl) wm_3_100 rfl rfl (Nat.le_of_ble_eq_true rfl) ⟨(Nat.le_of_ble_eq_true rfl), (Nat.le_of_ble_eq_true rfl)⟩ ⟨(Nat.le_of_ble_eq_true rfl), (Nat.le_of_ble_eq_true rfl)⟩ (fun v3 M2 => ?_)
      refine r_istore (lv' := [(4, .int v3), (0, .ref x0), (1, .ref x1), (2, .int x2), (3, .int x3)]) hz dX5_beginPrices_17 (by decide) rfl ?_
      refine r_aload_n hz dX5_beginPrices_19 1 rfl ?_
      refine r_getR (j := 4) cl5 hz dX5_beginPrices_20 (by decide) wm_1_150 rfl (fun q4 => ?_)
      refine r_iload hz dX5_beginPrices_23 0 rfl ?_
      refine r_aload_n hz dX5_beginPrices_25 2 rfl ?_
      refine r_getR (j := 17) cl6 hz dX5_beginPrices_26 (by decide) wm_1_94 rfl (fun q5 => ?_)
      refine r_iload hz dX5_beginPrices_29 0 rfl ?_
      refine r_iald hz dX5_beginPrices_31 ?_
      refine r_if_ne (tgt := 44) hz dX5_beginPrices_32 rfl ?_ ?_
      · refine r_aload_n hz dX5_beginPrices_44 2 rfl ?_
        refine r_getR (j := 17) cl6 hz dX5_beginPrices_45 (by decide) wm_1_94 rfl (fun q6 => ?_)
        refine r_iload hz dX5_beginPrices_48 0 rfl ?_
        refine r_iald hz dX5_beginPrices_50 ?_
        refine r_iast hz dX5_beginPrices_51 ?_
        refine r_nmM (fun M7 => ?_)
        refine r_iinc (v := (x3 + (1 : Int32))) (lv' := [(3, .int (x3 + (1 : Int32))), (4, .int v3), (0, .ref x0), (1, .ref x1), (2, .int x2)]) hz dX5_beginPrices_52 4 rfl rfl (by decide) rfl ?_
        refine r_goto (tgt := 2) hz dX5_beginPrices_55 rfl ?_
        refine r_sub [2, 3, 4, 0] rfl ?_
        exact ih x0 x1 x2 (x3 + (1 : Int32)) M7
      · refine r_aload_n hz dX5_beginPrices_35 2 rfl ?_
        refine r_getR (j := 7) cl6 hz dX5_beginPrices_36 (by decide) wm_1_60 rfl (fun q9 => ?_)
        refine r_iload_n hz dX5_beginPrices_39 3 rfl ?_
        refine r_iald hz dX5_beginPrices_40 ?_
        refine r_goto (tgt := 51) hz dX5_beginPrices_41 rfl ?_
        refine r_iast hz dX5_beginPrices_51 ?_
        refine r_nmM (fun M10 => ?_)
        refine r_iinc (v := (x3 + (1 : Int32))) (lv' := [(3, .int (x3 + (1 : Int32))), (4, .int v3), (0, .ref x0), (1, .ref x1), (2, .int x2)]) hz dX5_beginPrices_52 4 rfl rfl (by decide) rfl ?_
        refine r_goto (tgt := 2) hz dX5_beginPrices_55 rfl ?_
        refine r_sub [2, 3, 4, 0] rfl ?_
        exact ih x0 x1 x2 (x3 + (1 : Int32)) M10
def f_X5_beginPrices (p0 : Nat) (p1 : Nat) (p2 : Int32) (M : Mm) : Option (Unit × Mm) :=
  f_X5_beginPrices_2 FU p0 p1 p2 (1 : Int32) M
set_option maxRecDepth 20000 in
set_option maxHeartbeats 4000000 in
theorem t_X5_beginPrices (p0 : Nat) (p1 : Nat) (p2 : Int32) (M : Mm) (x : Unit) (M' : Mm) (h : f_X5_beginPrices p0 p1 p2 M = some (x, M')) : Ctr yX5_beginPrices cX5_beginPrices 5 none rX5_beginPrices (fun _ => [.ref p0, .ref p1, .int p2]) M (zU x) M' := by
  refine ctr_of (plainFor_of_name (by decide)) (fun _ => Nat.le_of_ble_eq_true rfl) (fun z hz hin hq => ?_)
  have key : Sim z 0 [(0, .ref p0), (1, .ref p1), (2, .int p2)] [] M 0 0 (f_X5_beginPrices p0 p1 p2 M) (fun a b => a = x ∧ b = M') := by
    have hq : Ret z zU (fun a b => a = x ∧ b = M') := fun a b e => by rw [e.1, e.2]; exact hq
    unfold f_X5_beginPrices
    refine r_iconst (v := 1) hz dX5_beginPrices_0 rfl ?_
    refine r_istore_n (lv' := [(3, .int (1 : Int32)), (0, .ref p0), (1, .ref p1), (2, .int p2)]) hz dX5_beginPrices_1 (by decide) rfl ?_
    refine r_sub [1, 2, 3, 0] rfl ?_
    exact s_X5_beginPrices_2 hz hq FU p0 p1 p2 (1 : Int32) M
  exact key x M' h ⟨rfl, rfl⟩
theorem dX5_begin_0 : decode cX5_begin 0 = .ok (.aload_n 0, 1) := by decide +kernel
theorem dX5_begin_1 : decode cX5_begin 1 = .ok (.iconst 0, 1) := by decide +kernel
theorem dX5_begin_2 : decode cX5_begin 2 = .ok (.putfield 9, 3) := by decide +kernel
theorem dX5_begin_5 : decode cX5_begin 5 = .ok (.aload_n 1, 1) := by decide +kernel
theorem dX5_begin_6 : decode cX5_begin 6 = .ok (.getfield 43, 3) := by decide +kernel
theorem dX5_begin_9 : decode cX5_begin 9 = .ok (.iconst 0, 1) := by decide +kernel
theorem dX5_begin_10 : decode cX5_begin 10 = .ok (.aload_n 0, 1) := by decide +kernel
theorem dX5_begin_11 : decode cX5_begin 11 = .ok (.getfield 15, 3) := by decide +kernel
theorem dX5_begin_14 : decode cX5_begin 14 = .ok (.iconst 0, 1) := by decide +kernel
theorem dX5_begin_15 : decode cX5_begin 15 = .ok (.aload_n 0, 1) := by decide +kernel
theorem dX5_begin_16 : decode cX5_begin 16 = .ok (.getfield 15, 3) := by decide +kernel
theorem dX5_begin_19 : decode cX5_begin 19 = .ok (.arraylength, 1) := by decide +kernel
theorem dX5_begin_20 : decode cX5_begin 20 = .ok (.invokestatic 46, 3) := by decide +kernel
theorem dX5_begin_23 : decode cX5_begin 23 = .ok (.aload_n 1, 1) := by decide +kernel
theorem dX5_begin_24 : decode cX5_begin 24 = .ok (.getfield 52, 3) := by decide +kernel
theorem dX5_begin_27 : decode cX5_begin 27 = .ok (.iconst 0, 1) := by decide +kernel
theorem dX5_begin_28 : decode cX5_begin 28 = .ok (.aload_n 0, 1) := by decide +kernel
theorem dX5_begin_29 : decode cX5_begin 29 = .ok (.getfield 34, 3) := by decide +kernel
theorem dX5_begin_32 : decode cX5_begin 32 = .ok (.iconst 0, 1) := by decide +kernel
theorem dX5_begin_33 : decode cX5_begin 33 = .ok (.aload_n 0, 1) := by decide +kernel
theorem dX5_begin_34 : decode cX5_begin 34 = .ok (.getfield 34, 3) := by decide +kernel
theorem dX5_begin_37 : decode cX5_begin 37 = .ok (.arraylength, 1) := by decide +kernel
theorem dX5_begin_38 : decode cX5_begin 38 = .ok (.invokestatic 46, 3) := by decide +kernel
theorem dX5_begin_41 : decode cX5_begin 41 = .ok (.aload_n 0, 1) := by decide +kernel
theorem dX5_begin_42 : decode cX5_begin 42 = .ok (.getfield 22, 3) := by decide +kernel
theorem dX5_begin_45 : decode cX5_begin 45 = .ok (.iconst 0, 1) := by decide +kernel
theorem dX5_begin_46 : decode cX5_begin 46 = .ok (.invokestatic 53, 3) := by decide +kernel
theorem dX5_begin_49 : decode cX5_begin 49 = .ok (.aload_n 0, 1) := by decide +kernel
theorem dX5_begin_50 : decode cX5_begin 50 = .ok (.getfield 28, 3) := by decide +kernel
theorem dX5_begin_53 : decode cX5_begin 53 = .ok (.iconst 0, 1) := by decide +kernel
theorem dX5_begin_54 : decode cX5_begin 54 = .ok (.invokestatic 53, 3) := by decide +kernel
theorem dX5_begin_57 : decode cX5_begin 57 = .ok (.aload_n 0, 1) := by decide +kernel
theorem dX5_begin_58 : decode cX5_begin 58 = .ok (.getfield 31, 3) := by decide +kernel
theorem dX5_begin_61 : decode cX5_begin 61 = .ok (.iconst 0, 1) := by decide +kernel
theorem dX5_begin_62 : decode cX5_begin 62 = .ok (.invokestatic 53, 3) := by decide +kernel
theorem dX5_begin_65 : decode cX5_begin 65 = .ok (.aload_n 0, 1) := by decide +kernel
theorem dX5_begin_66 : decode cX5_begin 66 = .ok (.getfield 37, 3) := by decide +kernel
theorem dX5_begin_69 : decode cX5_begin 69 = .ok (.iconst 0, 1) := by decide +kernel
theorem dX5_begin_70 : decode cX5_begin 70 = .ok (.invokestatic 53, 3) := by decide +kernel
theorem dX5_begin_73 : decode cX5_begin 73 = .ok (.aload_n 0, 1) := by decide +kernel
theorem dX5_begin_74 : decode cX5_begin 74 = .ok (.getfield 40, 3) := by decide +kernel
theorem dX5_begin_77 : decode cX5_begin 77 = .ok (.iconst 0, 1) := by decide +kernel
theorem dX5_begin_78 : decode cX5_begin 78 = .ok (.invokestatic 53, 3) := by decide +kernel
theorem dX5_begin_81 : decode cX5_begin 81 = .ok (.iconst 0, 1) := by decide +kernel
theorem dX5_begin_82 : decode cX5_begin 82 = .ok (.istore_n 2, 1) := by decide +kernel
theorem dX5_begin_83 : decode cX5_begin 83 = .ok (.iload_n 2, 1) := by decide +kernel
theorem dX5_begin_84 : decode cX5_begin 84 = .ok (.aload_n 1, 1) := by decide +kernel
theorem dX5_begin_85 : decode cX5_begin 85 = .ok (.getfield 59, 3) := by decide +kernel
theorem dX5_begin_88 : decode cX5_begin 88 = .ok (.if_icmp .ge 24, 3) := by decide +kernel
theorem dX5_begin_91 : decode cX5_begin 91 = .ok (.aload_n 0, 1) := by decide +kernel
theorem dX5_begin_92 : decode cX5_begin 92 = .ok (.getfield 19, 3) := by decide +kernel
theorem dX5_begin_95 : decode cX5_begin 95 = .ok (.iload_n 2, 1) := by decide +kernel
theorem dX5_begin_96 : decode cX5_begin 96 = .ok (.iload_n 2, 1) := by decide +kernel
theorem dX5_begin_97 : decode cX5_begin 97 = .ok (.iconst 1, 1) := by decide +kernel
theorem dX5_begin_98 : decode cX5_begin 98 = .ok (.iadd, 1) := by decide +kernel
theorem dX5_begin_99 : decode cX5_begin 99 = .ok (.iastore, 1) := by decide +kernel
theorem dX5_begin_100 : decode cX5_begin 100 = .ok (.aload_n 0, 1) := by decide +kernel
theorem dX5_begin_101 : decode cX5_begin 101 = .ok (.aload_n 1, 1) := by decide +kernel
theorem dX5_begin_102 : decode cX5_begin 102 = .ok (.iload_n 2, 1) := by decide +kernel
theorem dX5_begin_103 : decode cX5_begin 103 = .ok (.invokevirtual 62, 3) := by decide +kernel
theorem dX5_begin_106 : decode cX5_begin 106 = .ok (.iinc 2 1, 3) := by decide +kernel
theorem dX5_begin_109 : decode cX5_begin 109 = .ok (.goto (-26), 3) := by decide +kernel
theorem dX5_begin_112 : decode cX5_begin 112 = .ok (.return_, 1) := by decide +kernel
abbrev rX5_begin : Room := { frames := 2, cells := 0, slots := 0, locals := 45 }
theorem cal_X5_begin : CalOk yX5_begin cX5_begin 3 none 1 := ⟨wm_3_109, wm_1_3, by decide, by decide, by decide +kernel⟩
def f_X5_begin_83 : Nat → Nat → Nat → Int32 → Mm → Option (Unit × Mm)
  | 0, _, _, _, _ => none
  | n + 1, x0, x1, x2, M =>
    ck (gK M x1 = 6) ((if (gI M x1 0) ≤ x2 then
      some ((), M)
    else
      ck (gK M x0 = 5) (bR (gR M x0 2) fun q1 => ck (gK M q1 = 10 ∧ inb x2 (gN M q1)) (nm (sI M q1 (x2).toNatClampNeg (x2 + (1 : Int32))) fun M2 =>
      ck (gK M2 x0 = 5) (bd (f_X5_beginPrices x0 x1 x2 M2) fun _ M3 =>
      f_X5_begin_83 n x0 x1 (x2 + (1 : Int32)) M3)))))
set_option maxRecDepth 20000 in
set_option maxHeartbeats 4000000 in
theorem s_X5_begin_83 {z : Zt} {K : Unit → Mm → Prop} (hz : Good z RX5 cX5_begin 3 rX5_begin none) (hq : Ret z zU K) : ∀ (n : Nat) (x0 : Nat) (x1 : Nat) (x2 : Int32) (M : Mm), Sim z 83 [(0, .ref x0), (1, .ref x1), (2, .int x2)] [] M 0 0 (f_X5_begin_83 n x0 x1 x2 M) K := by
  intro n
  induction n with
  | zero => exact fun _ _ _ _ => r_none
  | succ n ih =>
    intro x0 x1 x2 M
    unfold f_X5_begin_83
    refine r_iload_n hz dX5_begin_83 2 rfl ?_
    refine r_aload_n hz dX5_begin_84 1 rfl ?_
    refine r_getI (j := 0) cl6 hz dX5_begin_85 (by decide) wm_1_37 rfl ?_
    refine r_icmp_ge (tgt := 112) hz dX5_begin_88 rfl ?_ ?_
    · exact r_vret hz hq dX5_begin_112 (Nat.le_of_ble_eq_true rfl) (Nat.le_of_ble_eq_true rfl)
    · refine r_aload_n hz dX5_begin_91 0 rfl ?_
      refine r_getR (j := 2) cl5 hz dX5_begin_92 (by decide) wm_1_145 rfl (fun q1 => ?_)
      refine r_iload_n hz dX5_begin_95 2 rfl ?_
      refine r_iload_n hz dX5_begin_96 2 rfl ?_
      refine r_iconst (v := 1) hz dX5_begin_97 rfl ?_
      refine r_iadd hz dX5_begin_98 ?_
      refine r_iast hz dX5_begin_99 ?_
      refine r_nmM (fun M2 => ?_)
      refine r_aload_n hz dX5_begin_100 0 rfl ?_
      refine r_aload_n hz dX5_begin_101 1 rfl ?_
      refine r_iload_n hz dX5_begin_102 2 rfl ?_
      refine r_callVv (As := fun _ => [.ref x1, .int x2]) cl5 hz (fun _ _ h => t_X5_beginPrices _ _ _ _ _ _ h) cal_X5_beginPrices dX5_begin_103 wm_3_114 wm_3_116 wm_p_21 rfl rfl (Nat.le_of_ble_eq_true rfl) ⟨(Nat.le_of_ble_eq_true rfl), (Nat.le_of_ble_eq_true rfl)⟩ ⟨(Nat.le_of_ble_eq_true rfl), (Nat.le_of_ble_eq_true rfl)⟩ (fun _ M3 => ?_)
      refine r_iinc (v := (x2 + (1 : Int32))) (lv' := [(2, .int (x2 + (1 : Int32))), (0, .ref x0), (1, .ref x1)]) hz dX5_begin_106 2 rfl rfl (by decide) rfl ?_
      refine r_goto (tgt := 83) hz dX5_begin_109 rfl ?_
      refine r_sub [1, 2, 0] rfl ?_
      exact ih x0 x1 (x2 + (1 : Int32)) M3
def f_X5_begin (p0 : Nat) (p1 : Nat) (M : Mm) : Option (Unit × Mm) :=
  ck (gK M p0 = 5) (nm (sI M p0 0 (0 : Int32)) fun M1 =>
  ck (gK M1 p1 = 6) (bR (gR M1 p1 14) fun q2 => ck (gK M1 p0 = 5) (bR (gR M1 p0 1) fun q3 => ck (gK M1 p0 = 5) (bR (gR M1 p0 1) fun q4 => ck (gK M1 q4 = 10) (ck (cpOk M1 q2 (0 : Int32) q3 (0 : Int32) (Int32.ofNat (gN M1 q4))) (nm (sC M1 q3 (va_cpy (gI M1 q2) (gI M1 q3) ((0 : Int32)).toNatClampNeg ((0 : Int32)).toNatClampNeg ((Int32.ofNat (gN M1 q4))).toNatClampNeg)) fun M5 =>
  ck (gK M5 p1 = 6) (bR (gR M5 p1 15) fun q6 => ck (gK M5 p0 = 5) (bR (gR M5 p0 7) fun q7 => ck (gK M5 p0 = 5) (bR (gR M5 p0 7) fun q8 => ck (gK M5 q8 = 10) (ck (cpOk M5 q6 (0 : Int32) q7 (0 : Int32) (Int32.ofNat (gN M5 q8))) (nm (sC M5 q7 (va_cpy (gI M5 q6) (gI M5 q7) ((0 : Int32)).toNatClampNeg ((0 : Int32)).toNatClampNeg ((Int32.ofNat (gN M5 q8))).toNatClampNeg)) fun M9 =>
  ck (gK M9 p0 = 5) (bR (gR M9 p0 3) fun q10 => bd (f_J7_fill_53178 q10 (0 : Int32) M9) fun _ M11 =>
  ck (gK M11 p0 = 5) (bR (gR M11 p0 5) fun q12 => bd (f_J7_fill_53178 q12 (0 : Int32) M11) fun _ M13 =>
  ck (gK M13 p0 = 5) (bR (gR M13 p0 6) fun q14 => bd (f_J7_fill_53178 q14 (0 : Int32) M13) fun _ M15 =>
  ck (gK M15 p0 = 5) (bR (gR M15 p0 8) fun q16 => bd (f_J7_fill_53178 q16 (0 : Int32) M15) fun _ M17 =>
  ck (gK M17 p0 = 5) (bR (gR M17 p0 9) fun q18 => bd (f_J7_fill_53178 q18 (0 : Int32) M17) fun _ M19 =>
  f_X5_begin_83 FU p0 p1 (0 : Int32) M19))))))))))))))))
set_option maxRecDepth 20000 in
set_option maxHeartbeats 4000000 in
theorem t_X5_begin (p0 : Nat) (p1 : Nat) (M : Mm) (x : Unit) (M' : Mm) (h : f_X5_begin p0 p1 M = some (x, M')) : Ctr yX5_begin cX5_begin 3 none rX5_begin (fun _ => [.ref p0, .ref p1]) M (zU x) M' := by
  refine ctr_of (plainFor_of_name (by decide)) (fun _ => Nat.le_of_ble_eq_true rfl) (fun z hz hin hq => ?_)
  have key : Sim z 0 [(0, .ref p0), (1, .ref p1)] [] M 0 0 (f_X5_begin p0 p1 M) (fun a b => a = x ∧ b = M') := by
    have hq : Ret z zU (fun a b => a = x ∧ b = M') := fun a b e => by rw [e.1, e.2]; exact hq
    unfold f_X5_begin
    refine r_aload_n hz dX5_begin_0 0 rfl ?_
    refine r_iconst (v := 0) hz dX5_begin_1 rfl ?_
    refine r_putI (j := 0) cl5 hz dX5_begin_2 (by decide) wm_1_140 (Or.inl rfl) rfl rfl rfl ?_
    refine r_nmM (fun M1 => ?_)
    refine r_aload_n hz dX5_begin_5 1 rfl ?_
    refine r_getR (j := 14) cl6 hz dX5_begin_6 (by decide) wm_1_86 rfl (fun q2 => ?_)
    refine r_iconst (v := 0) hz dX5_begin_9 rfl ?_
    refine r_aload_n hz dX5_begin_10 0 rfl ?_
    refine r_getR (j := 1) cl5 hz dX5_begin_11 (by decide) wm_1_143 rfl (fun q3 => ?_)
    refine r_iconst (v := 0) hz dX5_begin_14 rfl ?_
    refine r_aload_n hz dX5_begin_15 0 rfl ?_
    refine r_getR (j := 1) cl5 hz dX5_begin_16 (by decide) wm_1_143 rfl (fun q4 => ?_)
    refine r_alen hz dX5_begin_19 ?_
    refine r_copy hz dX5_begin_20 wm_3_110 (Nat.le_of_ble_eq_true rfl) (Nat.le_of_ble_eq_true rfl) ?_
    refine r_nmM (fun M5 => ?_)
    refine r_aload_n hz dX5_begin_23 1 rfl ?_
    refine r_getR (j := 15) cl6 hz dX5_begin_24 (by decide) wm_1_89 rfl (fun q6 => ?_)
    refine r_iconst (v := 0) hz dX5_begin_27 rfl ?_
    refine r_aload_n hz dX5_begin_28 0 rfl ?_
    refine r_getR (j := 7) cl5 hz dX5_begin_29 (by decide) wm_1_158 rfl (fun q7 => ?_)
    refine r_iconst (v := 0) hz dX5_begin_32 rfl ?_
    refine r_aload_n hz dX5_begin_33 0 rfl ?_
    refine r_getR (j := 7) cl5 hz dX5_begin_34 (by decide) wm_1_158 rfl (fun q8 => ?_)
    refine r_alen hz dX5_begin_37 ?_
    refine r_copy hz dX5_begin_38 wm_3_110 (Nat.le_of_ble_eq_true rfl) (Nat.le_of_ble_eq_true rfl) ?_
    refine r_nmM (fun M9 => ?_)
    refine r_aload_n hz dX5_begin_41 0 rfl ?_
    refine r_getR (j := 3) cl5 hz dX5_begin_42 (by decide) wm_1_147 rfl (fun q10 => ?_)
    refine r_iconst (v := 0) hz dX5_begin_45 rfl ?_
    refine r_callSv (As := fun _ => [.ref q10, .int (0 : Int32)]) hz (fun _ _ h => t_J7_fill_53178 _ _ _ _ _ h) cal_J7_fill_53178 dX5_begin_46 wm_3_113 wm_2_162 rfl rfl (Nat.le_of_ble_eq_true rfl) ⟨(Nat.le_of_ble_eq_true rfl), (Nat.le_of_ble_eq_true rfl)⟩ ⟨(Nat.le_of_ble_eq_true rfl), (Nat.le_of_ble_eq_true rfl)⟩ (fun _ M11 => ?_)
    refine r_aload_n hz dX5_begin_49 0 rfl ?_
    refine r_getR (j := 5) cl5 hz dX5_begin_50 (by decide) wm_1_153 rfl (fun q12 => ?_)
    refine r_iconst (v := 0) hz dX5_begin_53 rfl ?_
    refine r_callSv (As := fun _ => [.ref q12, .int (0 : Int32)]) hz (fun _ _ h => t_J7_fill_53178 _ _ _ _ _ h) cal_J7_fill_53178 dX5_begin_54 wm_3_113 wm_2_162 rfl rfl (Nat.le_of_ble_eq_true rfl) ⟨(Nat.le_of_ble_eq_true rfl), (Nat.le_of_ble_eq_true rfl)⟩ ⟨(Nat.le_of_ble_eq_true rfl), (Nat.le_of_ble_eq_true rfl)⟩ (fun _ M13 => ?_)
    refine r_aload_n hz dX5_begin_57 0 rfl ?_
    refine r_getR (j := 6) cl5 hz dX5_begin_58 (by decide) wm_1_155 rfl (fun q14 => ?_)
    refine r_iconst (v := 0) hz dX5_begin_61 rfl ?_
    refine r_callSv (As := fun _ => [.ref q14, .int (0 : Int32)]) hz (fun _ _ h => t_J7_fill_53178 _ _ _ _ _ h) cal_J7_fill_53178 dX5_begin_62 wm_3_113 wm_2_162 rfl rfl (Nat.le_of_ble_eq_true rfl) ⟨(Nat.le_of_ble_eq_true rfl), (Nat.le_of_ble_eq_true rfl)⟩ ⟨(Nat.le_of_ble_eq_true rfl), (Nat.le_of_ble_eq_true rfl)⟩ (fun _ M15 => ?_)
    refine r_aload_n hz dX5_begin_65 0 rfl ?_
    refine r_getR (j := 8) cl5 hz dX5_begin_66 (by decide) wm_1_161 rfl (fun q16 => ?_)
    refine r_iconst (v := 0) hz dX5_begin_69 rfl ?_
    refine r_callSv (As := fun _ => [.ref q16, .int (0 : Int32)]) hz (fun _ _ h => t_J7_fill_53178 _ _ _ _ _ h) cal_J7_fill_53178 dX5_begin_70 wm_3_113 wm_2_162 rfl rfl (Nat.le_of_ble_eq_true rfl) ⟨(Nat.le_of_ble_eq_true rfl), (Nat.le_of_ble_eq_true rfl)⟩ ⟨(Nat.le_of_ble_eq_true rfl), (Nat.le_of_ble_eq_true rfl)⟩ (fun _ M17 => ?_)
    refine r_aload_n hz dX5_begin_73 0 rfl ?_
    refine r_getR (j := 9) cl5 hz dX5_begin_74 (by decide) wm_1_165 rfl (fun q18 => ?_)
    refine r_iconst (v := 0) hz dX5_begin_77 rfl ?_
    refine r_callSv (As := fun _ => [.ref q18, .int (0 : Int32)]) hz (fun _ _ h => t_J7_fill_53178 _ _ _ _ _ h) cal_J7_fill_53178 dX5_begin_78 wm_3_113 wm_2_162 rfl rfl (Nat.le_of_ble_eq_true rfl) ⟨(Nat.le_of_ble_eq_true rfl), (Nat.le_of_ble_eq_true rfl)⟩ ⟨(Nat.le_of_ble_eq_true rfl), (Nat.le_of_ble_eq_true rfl)⟩ (fun _ M19 => ?_)
    refine r_iconst (v := 0) hz dX5_begin_81 rfl ?_
    refine r_istore_n (lv' := [(2, .int (0 : Int32)), (0, .ref p0), (1, .ref p1)]) hz dX5_begin_82 (by decide) rfl ?_
    refine r_sub [1, 2, 0] rfl ?_
    exact s_X5_begin_83 hz hq FU p0 p1 (0 : Int32) M19
  exact key x M' h ⟨rfl, rfl⟩
theorem dX5_become_0 : decode cX5_become 0 = .ok (.aload_n 0, 1) := by decide +kernel
theorem dX5_become_1 : decode cX5_become 1 = .ok (.aload_n 1, 1) := by decide +kernel
theorem dX5_become_2 : decode cX5_become 2 = .ok (.getfield 9, 3) := by decide +kernel
theorem dX5_become_5 : decode cX5_become 5 = .ok (.putfield 9, 3) := by decide +kernel
theorem dX5_become_8 : decode cX5_become 8 = .ok (.aload_n 1, 1) := by decide +kernel
theorem dX5_become_9 : decode cX5_become 9 = .ok (.getfield 15, 3) := by decide +kernel
theorem dX5_become_12 : decode cX5_become 12 = .ok (.iconst 0, 1) := by decide +kernel
theorem dX5_become_13 : decode cX5_become 13 = .ok (.aload_n 0, 1) := by decide +kernel
theorem dX5_become_14 : decode cX5_become 14 = .ok (.getfield 15, 3) := by decide +kernel
theorem dX5_become_17 : decode cX5_become 17 = .ok (.iconst 0, 1) := by decide +kernel
theorem dX5_become_18 : decode cX5_become 18 = .ok (.aload_n 0, 1) := by decide +kernel
theorem dX5_become_19 : decode cX5_become 19 = .ok (.getfield 15, 3) := by decide +kernel
theorem dX5_become_22 : decode cX5_become 22 = .ok (.arraylength, 1) := by decide +kernel
theorem dX5_become_23 : decode cX5_become 23 = .ok (.invokestatic 46, 3) := by decide +kernel
theorem dX5_become_26 : decode cX5_become 26 = .ok (.aload_n 1, 1) := by decide +kernel
theorem dX5_become_27 : decode cX5_become 27 = .ok (.getfield 19, 3) := by decide +kernel
theorem dX5_become_30 : decode cX5_become 30 = .ok (.iconst 0, 1) := by decide +kernel
theorem dX5_become_31 : decode cX5_become 31 = .ok (.aload_n 0, 1) := by decide +kernel
theorem dX5_become_32 : decode cX5_become 32 = .ok (.getfield 19, 3) := by decide +kernel
theorem dX5_become_35 : decode cX5_become 35 = .ok (.iconst 0, 1) := by decide +kernel
theorem dX5_become_36 : decode cX5_become 36 = .ok (.aload_n 0, 1) := by decide +kernel
theorem dX5_become_37 : decode cX5_become 37 = .ok (.getfield 19, 3) := by decide +kernel
theorem dX5_become_40 : decode cX5_become 40 = .ok (.arraylength, 1) := by decide +kernel
theorem dX5_become_41 : decode cX5_become 41 = .ok (.invokestatic 46, 3) := by decide +kernel
theorem dX5_become_44 : decode cX5_become 44 = .ok (.aload_n 1, 1) := by decide +kernel
theorem dX5_become_45 : decode cX5_become 45 = .ok (.getfield 22, 3) := by decide +kernel
theorem dX5_become_48 : decode cX5_become 48 = .ok (.iconst 0, 1) := by decide +kernel
theorem dX5_become_49 : decode cX5_become 49 = .ok (.aload_n 0, 1) := by decide +kernel
theorem dX5_become_50 : decode cX5_become 50 = .ok (.getfield 22, 3) := by decide +kernel
theorem dX5_become_53 : decode cX5_become 53 = .ok (.iconst 0, 1) := by decide +kernel
theorem dX5_become_54 : decode cX5_become 54 = .ok (.aload_n 0, 1) := by decide +kernel
theorem dX5_become_55 : decode cX5_become 55 = .ok (.getfield 22, 3) := by decide +kernel
theorem dX5_become_58 : decode cX5_become 58 = .ok (.arraylength, 1) := by decide +kernel
theorem dX5_become_59 : decode cX5_become 59 = .ok (.invokestatic 46, 3) := by decide +kernel
theorem dX5_become_62 : decode cX5_become 62 = .ok (.aload_n 1, 1) := by decide +kernel
theorem dX5_become_63 : decode cX5_become 63 = .ok (.getfield 25, 3) := by decide +kernel
theorem dX5_become_66 : decode cX5_become 66 = .ok (.iconst 0, 1) := by decide +kernel
theorem dX5_become_67 : decode cX5_become 67 = .ok (.aload_n 0, 1) := by decide +kernel
theorem dX5_become_68 : decode cX5_become 68 = .ok (.getfield 25, 3) := by decide +kernel
theorem dX5_become_71 : decode cX5_become 71 = .ok (.iconst 0, 1) := by decide +kernel
theorem dX5_become_72 : decode cX5_become 72 = .ok (.aload_n 0, 1) := by decide +kernel
theorem dX5_become_73 : decode cX5_become 73 = .ok (.getfield 25, 3) := by decide +kernel
theorem dX5_become_76 : decode cX5_become 76 = .ok (.arraylength, 1) := by decide +kernel
theorem dX5_become_77 : decode cX5_become 77 = .ok (.invokestatic 46, 3) := by decide +kernel
theorem dX5_become_80 : decode cX5_become 80 = .ok (.aload_n 1, 1) := by decide +kernel
theorem dX5_become_81 : decode cX5_become 81 = .ok (.getfield 28, 3) := by decide +kernel
theorem dX5_become_84 : decode cX5_become 84 = .ok (.iconst 0, 1) := by decide +kernel
theorem dX5_become_85 : decode cX5_become 85 = .ok (.aload_n 0, 1) := by decide +kernel
theorem dX5_become_86 : decode cX5_become 86 = .ok (.getfield 28, 3) := by decide +kernel
theorem dX5_become_89 : decode cX5_become 89 = .ok (.iconst 0, 1) := by decide +kernel
theorem dX5_become_90 : decode cX5_become 90 = .ok (.aload_n 0, 1) := by decide +kernel
theorem dX5_become_91 : decode cX5_become 91 = .ok (.getfield 28, 3) := by decide +kernel
theorem dX5_become_94 : decode cX5_become 94 = .ok (.arraylength, 1) := by decide +kernel
theorem dX5_become_95 : decode cX5_become 95 = .ok (.invokestatic 46, 3) := by decide +kernel
theorem dX5_become_98 : decode cX5_become 98 = .ok (.aload_n 1, 1) := by decide +kernel
theorem dX5_become_99 : decode cX5_become 99 = .ok (.getfield 31, 3) := by decide +kernel
theorem dX5_become_102 : decode cX5_become 102 = .ok (.iconst 0, 1) := by decide +kernel
theorem dX5_become_103 : decode cX5_become 103 = .ok (.aload_n 0, 1) := by decide +kernel
theorem dX5_become_104 : decode cX5_become 104 = .ok (.getfield 31, 3) := by decide +kernel
theorem dX5_become_107 : decode cX5_become 107 = .ok (.iconst 0, 1) := by decide +kernel
theorem dX5_become_108 : decode cX5_become 108 = .ok (.aload_n 0, 1) := by decide +kernel
theorem dX5_become_109 : decode cX5_become 109 = .ok (.getfield 31, 3) := by decide +kernel
theorem dX5_become_112 : decode cX5_become 112 = .ok (.arraylength, 1) := by decide +kernel
theorem dX5_become_113 : decode cX5_become 113 = .ok (.invokestatic 46, 3) := by decide +kernel
theorem dX5_become_116 : decode cX5_become 116 = .ok (.aload_n 1, 1) := by decide +kernel
theorem dX5_become_117 : decode cX5_become 117 = .ok (.getfield 34, 3) := by decide +kernel
theorem dX5_become_120 : decode cX5_become 120 = .ok (.iconst 0, 1) := by decide +kernel
theorem dX5_become_121 : decode cX5_become 121 = .ok (.aload_n 0, 1) := by decide +kernel
theorem dX5_become_122 : decode cX5_become 122 = .ok (.getfield 34, 3) := by decide +kernel
theorem dX5_become_125 : decode cX5_become 125 = .ok (.iconst 0, 1) := by decide +kernel
theorem dX5_become_126 : decode cX5_become 126 = .ok (.aload_n 0, 1) := by decide +kernel
theorem dX5_become_127 : decode cX5_become 127 = .ok (.getfield 34, 3) := by decide +kernel
theorem dX5_become_130 : decode cX5_become 130 = .ok (.arraylength, 1) := by decide +kernel
theorem dX5_become_131 : decode cX5_become 131 = .ok (.invokestatic 46, 3) := by decide +kernel
theorem dX5_become_134 : decode cX5_become 134 = .ok (.aload_n 1, 1) := by decide +kernel
theorem dX5_become_135 : decode cX5_become 135 = .ok (.getfield 37, 3) := by decide +kernel
theorem dX5_become_138 : decode cX5_become 138 = .ok (.iconst 0, 1) := by decide +kernel
theorem dX5_become_139 : decode cX5_become 139 = .ok (.aload_n 0, 1) := by decide +kernel
theorem dX5_become_140 : decode cX5_become 140 = .ok (.getfield 37, 3) := by decide +kernel
theorem dX5_become_143 : decode cX5_become 143 = .ok (.iconst 0, 1) := by decide +kernel
theorem dX5_become_144 : decode cX5_become 144 = .ok (.aload_n 0, 1) := by decide +kernel
theorem dX5_become_145 : decode cX5_become 145 = .ok (.getfield 37, 3) := by decide +kernel
theorem dX5_become_148 : decode cX5_become 148 = .ok (.arraylength, 1) := by decide +kernel
theorem dX5_become_149 : decode cX5_become 149 = .ok (.invokestatic 46, 3) := by decide +kernel
theorem dX5_become_152 : decode cX5_become 152 = .ok (.aload_n 1, 1) := by decide +kernel
theorem dX5_become_153 : decode cX5_become 153 = .ok (.getfield 40, 3) := by decide +kernel
theorem dX5_become_156 : decode cX5_become 156 = .ok (.iconst 0, 1) := by decide +kernel
theorem dX5_become_157 : decode cX5_become 157 = .ok (.aload_n 0, 1) := by decide +kernel
theorem dX5_become_158 : decode cX5_become 158 = .ok (.getfield 40, 3) := by decide +kernel
theorem dX5_become_161 : decode cX5_become 161 = .ok (.iconst 0, 1) := by decide +kernel
theorem dX5_become_162 : decode cX5_become 162 = .ok (.aload_n 0, 1) := by decide +kernel
theorem dX5_become_163 : decode cX5_become 163 = .ok (.getfield 40, 3) := by decide +kernel
theorem dX5_become_166 : decode cX5_become 166 = .ok (.arraylength, 1) := by decide +kernel
theorem dX5_become_167 : decode cX5_become 167 = .ok (.invokestatic 46, 3) := by decide +kernel
theorem dX5_become_170 : decode cX5_become 170 = .ok (.return_, 1) := by decide +kernel
abbrev rX5_become : Room := { frames := 1, cells := 0, slots := 0, locals := 40 }
theorem cal_X5_become : CalOk yX5_become cX5_become 2 none 1 := ⟨wm_3_203, wm_1_3, by decide, by decide, by decide +kernel⟩
def f_X5_become (p0 : Nat) (p1 : Nat) (M : Mm) : Option (Unit × Mm) :=
  ck (gK M p1 = 5) (ck (gK M p0 = 5) (nm (sI M p0 0 (gI M p1 0)) fun M1 =>
  ck (gK M1 p1 = 5) (bR (gR M1 p1 1) fun q2 => ck (gK M1 p0 = 5) (bR (gR M1 p0 1) fun q3 => ck (gK M1 p0 = 5) (bR (gR M1 p0 1) fun q4 => ck (gK M1 q4 = 10) (ck (cpOk M1 q2 (0 : Int32) q3 (0 : Int32) (Int32.ofNat (gN M1 q4))) (nm (sC M1 q3 (va_cpy (gI M1 q2) (gI M1 q3) ((0 : Int32)).toNatClampNeg ((0 : Int32)).toNatClampNeg ((Int32.ofNat (gN M1 q4))).toNatClampNeg)) fun M5 =>
  ck (gK M5 p1 = 5) (bR (gR M5 p1 2) fun q6 => ck (gK M5 p0 = 5) (bR (gR M5 p0 2) fun q7 => ck (gK M5 p0 = 5) (bR (gR M5 p0 2) fun q8 => ck (gK M5 q8 = 10) (ck (cpOk M5 q6 (0 : Int32) q7 (0 : Int32) (Int32.ofNat (gN M5 q8))) (nm (sC M5 q7 (va_cpy (gI M5 q6) (gI M5 q7) ((0 : Int32)).toNatClampNeg ((0 : Int32)).toNatClampNeg ((Int32.ofNat (gN M5 q8))).toNatClampNeg)) fun M9 =>
  ck (gK M9 p1 = 5) (bR (gR M9 p1 3) fun q10 => ck (gK M9 p0 = 5) (bR (gR M9 p0 3) fun q11 => ck (gK M9 p0 = 5) (bR (gR M9 p0 3) fun q12 => ck (gK M9 q12 = 10) (ck (cpOk M9 q10 (0 : Int32) q11 (0 : Int32) (Int32.ofNat (gN M9 q12))) (nm (sC M9 q11 (va_cpy (gI M9 q10) (gI M9 q11) ((0 : Int32)).toNatClampNeg ((0 : Int32)).toNatClampNeg ((Int32.ofNat (gN M9 q12))).toNatClampNeg)) fun M13 =>
  ck (gK M13 p1 = 5) (bR (gR M13 p1 4) fun q14 => ck (gK M13 p0 = 5) (bR (gR M13 p0 4) fun q15 => ck (gK M13 p0 = 5) (bR (gR M13 p0 4) fun q16 => ck (gK M13 q16 = 10) (ck (cpOk M13 q14 (0 : Int32) q15 (0 : Int32) (Int32.ofNat (gN M13 q16))) (nm (sC M13 q15 (va_cpy (gI M13 q14) (gI M13 q15) ((0 : Int32)).toNatClampNeg ((0 : Int32)).toNatClampNeg ((Int32.ofNat (gN M13 q16))).toNatClampNeg)) fun M17 =>
  ck (gK M17 p1 = 5) (bR (gR M17 p1 5) fun q18 => ck (gK M17 p0 = 5) (bR (gR M17 p0 5) fun q19 => ck (gK M17 p0 = 5) (bR (gR M17 p0 5) fun q20 => ck (gK M17 q20 = 10) (ck (cpOk M17 q18 (0 : Int32) q19 (0 : Int32) (Int32.ofNat (gN M17 q20))) (nm (sC M17 q19 (va_cpy (gI M17 q18) (gI M17 q19) ((0 : Int32)).toNatClampNeg ((0 : Int32)).toNatClampNeg ((Int32.ofNat (gN M17 q20))).toNatClampNeg)) fun M21 =>
  ck (gK M21 p1 = 5) (bR (gR M21 p1 6) fun q22 => ck (gK M21 p0 = 5) (bR (gR M21 p0 6) fun q23 => ck (gK M21 p0 = 5) (bR (gR M21 p0 6) fun q24 => ck (gK M21 q24 = 10) (ck (cpOk M21 q22 (0 : Int32) q23 (0 : Int32) (Int32.ofNat (gN M21 q24))) (nm (sC M21 q23 (va_cpy (gI M21 q22) (gI M21 q23) ((0 : Int32)).toNatClampNeg ((0 : Int32)).toNatClampNeg ((Int32.ofNat (gN M21 q24))).toNatClampNeg)) fun M25 =>
  ck (gK M25 p1 = 5) (bR (gR M25 p1 7) fun q26 => ck (gK M25 p0 = 5) (bR (gR M25 p0 7) fun q27 => ck (gK M25 p0 = 5) (bR (gR M25 p0 7) fun q28 => ck (gK M25 q28 = 10) (ck (cpOk M25 q26 (0 : Int32) q27 (0 : Int32) (Int32.ofNat (gN M25 q28))) (nm (sC M25 q27 (va_cpy (gI M25 q26) (gI M25 q27) ((0 : Int32)).toNatClampNeg ((0 : Int32)).toNatClampNeg ((Int32.ofNat (gN M25 q28))).toNatClampNeg)) fun M29 =>
  ck (gK M29 p1 = 5) (bR (gR M29 p1 8) fun q30 => ck (gK M29 p0 = 5) (bR (gR M29 p0 8) fun q31 => ck (gK M29 p0 = 5) (bR (gR M29 p0 8) fun q32 => ck (gK M29 q32 = 10) (ck (cpOk M29 q30 (0 : Int32) q31 (0 : Int32) (Int32.ofNat (gN M29 q32))) (nm (sC M29 q31 (va_cpy (gI M29 q30) (gI M29 q31) ((0 : Int32)).toNatClampNeg ((0 : Int32)).toNatClampNeg ((Int32.ofNat (gN M29 q32))).toNatClampNeg)) fun M33 =>
  ck (gK M33 p1 = 5) (bR (gR M33 p1 9) fun q34 => ck (gK M33 p0 = 5) (bR (gR M33 p0 9) fun q35 => ck (gK M33 p0 = 5) (bR (gR M33 p0 9) fun q36 => ck (gK M33 q36 = 10) (ck (cpOk M33 q34 (0 : Int32) q35 (0 : Int32) (Int32.ofNat (gN M33 q36))) (nm (sC M33 q35 (va_cpy (gI M33 q34) (gI M33 q35) ((0 : Int32)).toNatClampNeg ((0 : Int32)).toNatClampNeg ((Int32.ofNat (gN M33 q36))).toNatClampNeg)) fun M37 =>
  some ((), M37))))))))))))))))))))))))))))))))))))))))))))))))
set_option maxRecDepth 20000 in
set_option maxHeartbeats 4000000 in
theorem t_X5_become (p0 : Nat) (p1 : Nat) (M : Mm) (x : Unit) (M' : Mm) (h : f_X5_become p0 p1 M = some (x, M')) : Ctr yX5_become cX5_become 2 none rX5_become (fun _ => [.ref p0, .ref p1]) M (zU x) M' := by
  refine ctr_of (plainFor_of_name (by decide)) (fun _ => Nat.le_of_ble_eq_true rfl) (fun z hz hin hq => ?_)
  have key : Sim z 0 [(0, .ref p0), (1, .ref p1)] [] M 0 0 (f_X5_become p0 p1 M) (fun a b => a = x ∧ b = M') := by
    have hq : Ret z zU (fun a b => a = x ∧ b = M') := fun a b e => by rw [e.1, e.2]; exact hq
    unfold f_X5_become
    refine r_aload_n hz dX5_become_0 0 rfl ?_
    refine r_aload_n hz dX5_become_1 1 rfl ?_
    refine r_getI (j := 0) cl5 hz dX5_become_2 (by decide) wm_1_140 rfl ?_
    refine r_putI (j := 0) cl5 hz dX5_become_5 (by decide) wm_1_140 (Or.inl rfl) rfl rfl rfl ?_
    refine r_nmM (fun M1 => ?_)
    refine r_aload_n hz dX5_become_8 1 rfl ?_
    refine r_getR (j := 1) cl5 hz dX5_become_9 (by decide) wm_1_143 rfl (fun q2 => ?_)
    refine r_iconst (v := 0) hz dX5_become_12 rfl ?_
    refine r_aload_n hz dX5_become_13 0 rfl ?_
    refine r_getR (j := 1) cl5 hz dX5_become_14 (by decide) wm_1_143 rfl (fun q3 => ?_)
    refine r_iconst (v := 0) hz dX5_become_17 rfl ?_
    refine r_aload_n hz dX5_become_18 0 rfl ?_
    refine r_getR (j := 1) cl5 hz dX5_become_19 (by decide) wm_1_143 rfl (fun q4 => ?_)
    refine r_alen hz dX5_become_22 ?_
    refine r_copy hz dX5_become_23 wm_3_110 (Nat.le_of_ble_eq_true rfl) (Nat.le_of_ble_eq_true rfl) ?_
    refine r_nmM (fun M5 => ?_)
    refine r_aload_n hz dX5_become_26 1 rfl ?_
    refine r_getR (j := 2) cl5 hz dX5_become_27 (by decide) wm_1_145 rfl (fun q6 => ?_)
    refine r_iconst (v := 0) hz dX5_become_30 rfl ?_
    refine r_aload_n hz dX5_become_31 0 rfl ?_
    refine r_getR (j := 2) cl5 hz dX5_become_32 (by decide) wm_1_145 rfl (fun q7 => ?_)
    refine r_iconst (v := 0) hz dX5_become_35 rfl ?_
    refine r_aload_n hz dX5_become_36 0 rfl ?_
    refine r_getR (j := 2) cl5 hz dX5_become_37 (by decide) wm_1_145 rfl (fun q8 => ?_)
    refine r_alen hz dX5_become_40 ?_
    refine r_copy hz dX5_become_41 wm_3_110 (Nat.le_of_ble_eq_true rfl) (Nat.le_of_ble_eq_true rfl) ?_
    refine r_nmM (fun M9 => ?_)
    refine r_aload_n hz dX5_become_44 1 rfl ?_
    refine r_getR (j := 3) cl5 hz dX5_become_45 (by decide) wm_1_147 rfl (fun q10 => ?_)
    refine r_iconst (v := 0) hz dX5_become_48 rfl ?_
    refine r_aload_n hz dX5_become_49 0 rfl ?_
    refine r_getR (j := 3) cl5 hz dX5_become_50 (by decide) wm_1_147 rfl (fun q11 => ?_)
    refine r_iconst (v := 0) hz dX5_become_53 rfl ?_
    refine r_aload_n hz dX5_become_54 0 rfl ?_
    refine r_getR (j := 3) cl5 hz dX5_become_55 (by decide) wm_1_147 rfl (fun q12 => ?_)
    refine r_alen hz dX5_become_58 ?_
    refine r_copy hz dX5_become_59 wm_3_110 (Nat.le_of_ble_eq_true rfl) (Nat.le_of_ble_eq_true rfl) ?_
    refine r_nmM (fun M13 => ?_)
    refine r_aload_n hz dX5_become_62 1 rfl ?_
    refine r_getR (j := 4) cl5 hz dX5_become_63 (by decide) wm_1_150 rfl (fun q14 => ?_)
    refine r_iconst (v := 0) hz dX5_become_66 rfl ?_
    refine r_aload_n hz dX5_become_67 0 rfl ?_
    refine r_getR (j := 4) cl5 hz dX5_become_68 (by decide) wm_1_150 rfl (fun q15 => ?_)
    refine r_iconst (v := 0) hz dX5_become_71 rfl ?_
    refine r_aload_n hz dX5_become_72 0 rfl ?_
    refine r_getR (j := 4) cl5 hz dX5_become_73 (by decide) wm_1_150 rfl (fun q16 => ?_)
    refine r_alen hz dX5_become_76 ?_
    refine r_copy hz dX5_become_77 wm_3_110 (Nat.le_of_ble_eq_true rfl) (Nat.le_of_ble_eq_true rfl) ?_
    refine r_nmM (fun M17 => ?_)
    refine r_aload_n hz dX5_become_80 1 rfl ?_
    refine r_getR (j := 5) cl5 hz dX5_become_81 (by decide) wm_1_153 rfl (fun q18 => ?_)
    refine r_iconst (v := 0) hz dX5_become_84 rfl ?_
    refine r_aload_n hz dX5_become_85 0 rfl ?_
    refine r_getR (j := 5) cl5 hz dX5_become_86 (by decide) wm_1_153 rfl (fun q19 => ?_)
    refine r_iconst (v := 0) hz dX5_become_89 rfl ?_
    refine r_aload_n hz dX5_become_90 0 rfl ?_
    refine r_getR (j := 5) cl5 hz dX5_become_91 (by decide) wm_1_153 rfl (fun q20 => ?_)
    refine r_alen hz dX5_become_94 ?_
    refine r_copy hz dX5_become_95 wm_3_110 (Nat.le_of_ble_eq_true rfl) (Nat.le_of_ble_eq_true rfl) ?_
    refine r_nmM (fun M21 => ?_)
    refine r_aload_n hz dX5_become_98 1 rfl ?_
    refine r_getR (j := 6) cl5 hz dX5_become_99 (by decide) wm_1_155 rfl (fun q22 => ?_)
    refine r_iconst (v := 0) hz dX5_become_102 rfl ?_
    refine r_aload_n hz dX5_become_103 0 rfl ?_
    refine r_getR (j := 6) cl5 hz dX5_become_104 (by decide) wm_1_155 rfl (fun q23 => ?_)
    refine r_iconst (v := 0) hz dX5_become_107 rfl ?_
    refine r_aload_n hz dX5_become_108 0 rfl ?_
    refine r_getR (j := 6) cl5 hz dX5_become_109 (by decide) wm_1_155 rfl (fun q24 => ?_)
    refine r_alen hz dX5_become_112 ?_
    refine r_copy hz dX5_become_113 wm_3_110 (Nat.le_of_ble_eq_true rfl) (Nat.le_of_ble_eq_true rfl) ?_
    refine r_nmM (fun M25 => ?_)
    refine r_aload_n hz dX5_become_116 1 rfl ?_
    refine r_getR (j := 7) cl5 hz dX5_become_117 (by decide) wm_1_158 rfl (fun q26 => ?_)
    refine r_iconst (v := 0) hz dX5_become_120 rfl ?_
    refine r_aload_n hz dX5_become_121 0 rfl ?_
    refine r_getR (j := 7) cl5 hz dX5_become_122 (by decide) wm_1_158 rfl (fun q27 => ?_)
    refine r_iconst (v := 0) hz dX5_become_125 rfl ?_
    refine r_aload_n hz dX5_become_126 0 rfl ?_
    refine r_getR (j := 7) cl5 hz dX5_become_127 (by decide) wm_1_158 rfl (fun q28 => ?_)
    refine r_alen hz dX5_become_130 ?_
    refine r_copy hz dX5_become_131 wm_3_110 (Nat.le_of_ble_eq_true rfl) (Nat.le_of_ble_eq_true rfl) ?_
    refine r_nmM (fun M29 => ?_)
    refine r_aload_n hz dX5_become_134 1 rfl ?_
    refine r_getR (j := 8) cl5 hz dX5_become_135 (by decide) wm_1_161 rfl (fun q30 => ?_)
    refine r_iconst (v := 0) hz dX5_become_138 rfl ?_
    refine r_aload_n hz dX5_become_139 0 rfl ?_
    refine r_getR (j := 8) cl5 hz dX5_become_140 (by decide) wm_1_161 rfl (fun q31 => ?_)
    refine r_iconst (v := 0) hz dX5_become_143 rfl ?_
    refine r_aload_n hz dX5_become_144 0 rfl ?_
    refine r_getR (j := 8) cl5 hz dX5_become_145 (by decide) wm_1_161 rfl (fun q32 => ?_)
    refine r_alen hz dX5_become_148 ?_
    refine r_copy hz dX5_become_149 wm_3_110 (Nat.le_of_ble_eq_true rfl) (Nat.le_of_ble_eq_true rfl) ?_
    refine r_nmM (fun M33 => ?_)
    refine r_aload_n hz dX5_become_152 1 rfl ?_
    refine r_getR (j := 9) cl5 hz dX5_become_153 (by decide) wm_1_165 rfl (fun q34 => ?_)
    refine r_iconst (v := 0) hz dX5_become_156 rfl ?_
    refine r_aload_n hz dX5_become_157 0 rfl ?_
    refine r_getR (j := 9) cl5 hz dX5_become_158 (by decide) wm_1_165 rfl (fun q35 => ?_)
    refine r_iconst (v := 0) hz dX5_become_161 rfl ?_
    refine r_aload_n hz dX5_become_162 0 rfl ?_
    refine r_getR (j := 9) cl5 hz dX5_become_163 (by decide) wm_1_165 rfl (fun q36 => ?_)
    refine r_alen hz dX5_become_166 ?_
    refine r_copy hz dX5_become_167 wm_3_110 (Nat.le_of_ble_eq_true rfl) (Nat.le_of_ble_eq_true rfl) ?_
    refine r_nmM (fun M37 => ?_)
    exact r_vret hz hq dX5_become_170 (Nat.le_of_ble_eq_true rfl) (Nat.le_of_ble_eq_true rfl)
  exact key x M' h ⟨rfl, rfl⟩
theorem dX5_pay_0 : decode cX5_pay 0 = .ok (.iload_n 1, 1) := by decide +kernel
theorem dX5_pay_1 : decode cX5_pay 1 = .ok (.ifCond .lt 31, 3) := by decide +kernel
theorem dX5_pay_4 : decode cX5_pay 4 = .ok (.iload_n 1, 1) := by decide +kernel
theorem dX5_pay_5 : decode cX5_pay 5 = .ok (.aload_n 0, 1) := by decide +kernel
theorem dX5_pay_6 : decode cX5_pay 6 = .ok (.getfield 15, 3) := by decide +kernel
theorem dX5_pay_9 : decode cX5_pay 9 = .ok (.arraylength, 1) := by decide +kernel
theorem dX5_pay_10 : decode cX5_pay 10 = .ok (.if_icmp .ge 22, 3) := by decide +kernel
theorem dX5_pay_13 : decode cX5_pay 13 = .ok (.aload_n 0, 1) := by decide +kernel
theorem dX5_pay_14 : decode cX5_pay 14 = .ok (.getfield 15, 3) := by decide +kernel
theorem dX5_pay_17 : decode cX5_pay 17 = .ok (.iload_n 1, 1) := by decide +kernel
theorem dX5_pay_18 : decode cX5_pay 18 = .ok (.ldc 77, 2) := by decide +kernel
theorem dX5_pay_20 : decode cX5_pay 20 = .ok (.aload_n 0, 1) := by decide +kernel
theorem dX5_pay_21 : decode cX5_pay 21 = .ok (.getfield 15, 3) := by decide +kernel
theorem dX5_pay_24 : decode cX5_pay 24 = .ok (.iload_n 1, 1) := by decide +kernel
theorem dX5_pay_25 : decode cX5_pay 25 = .ok (.iaload, 1) := by decide +kernel
theorem dX5_pay_26 : decode cX5_pay 26 = .ok (.iload_n 2, 1) := by decide +kernel
theorem dX5_pay_27 : decode cX5_pay 27 = .ok (.iadd, 1) := by decide +kernel
theorem dX5_pay_28 : decode cX5_pay 28 = .ok (.invokestatic 78, 3) := by decide +kernel
theorem dX5_pay_31 : decode cX5_pay 31 = .ok (.iastore, 1) := by decide +kernel
theorem dX5_pay_32 : decode cX5_pay 32 = .ok (.return_, 1) := by decide +kernel
abbrev rX5_pay : Room := { frames := 1, cells := 0, slots := 0, locals := 21 }
theorem cal_X5_pay : CalOk yX5_pay cX5_pay 3 none 2 := ⟨wm_4_3, wm_1_3, by decide, by decide, by decide +kernel⟩
def f_X5_pay (p0 : Nat) (p1 : Int32) (p2 : Int32) (M : Mm) : Option (Unit × Mm) :=
  (if p1 < 0 then
    some ((), M)
  else
    ck (gK M p0 = 5) (bR (gR M p0 1) fun q1 => ck (gK M q1 = 10) ((if (Int32.ofNat (gN M q1)) ≤ p1 then
      some ((), M)
    else
      ck (gK M p0 = 5) (bR (gR M p0 1) fun q2 => ck (gK M p0 = 5) (bR (gR M p0 1) fun q3 => ck (gK M q3 = 10 ∧ inb p1 (gN M q3)) (bd (f_J9_min_7cf53 (1000000000 : Int32) ((gI M q3 (p1).toNatClampNeg) + p2) M) fun v5 M4 =>
      ck (gK M4 q2 = 10 ∧ inb p1 (gN M4 q2)) (nm (sI M4 q2 (p1).toNatClampNeg v5) fun M6 =>
      some ((), M6)))))))))
set_option maxRecDepth 20000 in
set_option maxHeartbeats 4000000 in
theorem t_X5_pay (p0 : Nat) (p1 : Int32) (p2 : Int32) (M : Mm) (x : Unit) (M' : Mm) (h : f_X5_pay p0 p1 p2 M = some (x, M')) : Ctr yX5_pay cX5_pay 3 none rX5_pay (fun _ => [.ref p0, .int p1, .int p2]) M (zU x) M' := by
  refine ctr_of (plainFor_of_name (by decide)) (fun _ => Nat.le_of_ble_eq_true rfl) (fun z hz hin hq => ?_)
  have key : Sim z 0 [(0, .ref p0), (1, .int p1), (2, .int p2)] [] M 0 0 (f_X5_pay p0 p1 p2 M) (fun a b => a = x ∧ b = M') := by
    have hq : Ret z zU (fun a b => a = x ∧ b = M') := fun a b e => by rw [e.1, e.2]; exact hq
    unfold f_X5_pay
    refine r_iload_n hz dX5_pay_0 1 rfl ?_
    refine r_if_lt (tgt := 32) hz dX5_pay_1 rfl ?_ ?_
    · exact r_vret hz hq dX5_pay_32 (Nat.le_of_ble_eq_true rfl) (Nat.le_of_ble_eq_true rfl)
    · refine r_iload_n hz dX5_pay_4 1 rfl ?_
      refine r_aload_n hz dX5_pay_5 0 rfl ?_
      refine r_getR (j := 1) cl5 hz dX5_pay_6 (by decide) wm_1_143 rfl (fun q1 => ?_)
      refine r_alen hz dX5_pay_9 ?_
      refine r_icmp_ge (tgt := 32) hz dX5_pay_10 rfl ?_ ?_
      · exact r_vret hz hq dX5_pay_32 (Nat.le_of_ble_eq_true rfl) (Nat.le_of_ble_eq_true rfl)
      · refine r_aload_n hz dX5_pay_13 0 rfl ?_
        refine r_getR (j := 1) cl5 hz dX5_pay_14 (by decide) wm_1_143 rfl (fun q2 => ?_)
        refine r_iload_n hz dX5_pay_17 1 rfl ?_
        refine r_ldc (v := 1000000000) hz dX5_pay_18 wm_4_4 ?_
        refine r_aload_n hz dX5_pay_20 0 rfl ?_
        refine r_getR (j := 1) cl5 hz dX5_pay_21 (by decide) wm_1_143 rfl (fun q3 => ?_)
        refine r_iload_n hz dX5_pay_24 1 rfl ?_
        refine r_iald hz dX5_pay_25 ?_
        refine r_iload_n hz dX5_pay_26 2 rfl ?_
        refine r_iadd hz dX5_pay_27 ?_
        refine r_callSi (As := fun _ => [.int (1000000000 : Int32), .int ((gI M q3 (p1).toNatClampNeg) + p2)]) hz (fun _ _ h => t_J9_min_7cf53 _ _ _ _ _ h) cal_J9_min_7cf53 dX5_pay_28 wm_4_5 wm_2_165 rfl rfl (Nat.le_of_ble_eq_true rfl) ⟨(Nat.le_of_ble_eq_true rfl), (Nat.le_of_ble_eq_true rfl)⟩ ⟨(Nat.le_of_ble_eq_true rfl), (Nat.le_of_ble_eq_true rfl)⟩ (fun v5 M4 => ?_)
        refine r_iast hz dX5_pay_31 ?_
        refine r_nmM (fun M6 => ?_)
        exact r_vret hz hq dX5_pay_32 (Nat.le_of_ble_eq_true rfl) (Nat.le_of_ble_eq_true rfl)
  exact key x M' h ⟨rfl, rfl⟩
theorem dX5_retire_0 : decode cX5_retire 0 = .ok (.aload_n 0, 1) := by decide +kernel
theorem dX5_retire_1 : decode cX5_retire 1 = .ok (.getfield 31, 3) := by decide +kernel
theorem dX5_retire_4 : decode cX5_retire 4 = .ok (.iload_n 1, 1) := by decide +kernel
theorem dX5_retire_5 : decode cX5_retire 5 = .ok (.iload_n 2, 1) := by decide +kernel
theorem dX5_retire_6 : decode cX5_retire 6 = .ok (.iastore, 1) := by decide +kernel
theorem dX5_retire_7 : decode cX5_retire 7 = .ok (.aload_n 0, 1) := by decide +kernel
theorem dX5_retire_8 : decode cX5_retire 8 = .ok (.getfield 37, 3) := by decide +kernel
theorem dX5_retire_11 : decode cX5_retire 11 = .ok (.iload_n 1, 1) := by decide +kernel
theorem dX5_retire_12 : decode cX5_retire 12 = .ok (.iload_n 3, 1) := by decide +kernel
theorem dX5_retire_13 : decode cX5_retire 13 = .ok (.iastore, 1) := by decide +kernel
theorem dX5_retire_14 : decode cX5_retire 14 = .ok (.aload_n 0, 1) := by decide +kernel
theorem dX5_retire_15 : decode cX5_retire 15 = .ok (.getfield 40, 3) := by decide +kernel
theorem dX5_retire_18 : decode cX5_retire 18 = .ok (.iload_n 1, 1) := by decide +kernel
theorem dX5_retire_19 : decode cX5_retire 19 = .ok (.iload 4, 2) := by decide +kernel
theorem dX5_retire_21 : decode cX5_retire 21 = .ok (.iastore, 1) := by decide +kernel
theorem dX5_retire_22 : decode cX5_retire 22 = .ok (.return_, 1) := by decide +kernel
abbrev rX5_retire : Room := { frames := 0, cells := 0, slots := 0, locals := 0 }
theorem cal_X5_retire : CalOk yX5_retire cX5_retire 5 none 4 := ⟨wm_4_23, wm_1_3, by decide, by decide, by decide +kernel⟩
def f_X5_retire (p0 : Nat) (p1 : Int32) (p2 : Int32) (p3 : Int32) (p4 : Int32) (M : Mm) : Option (Unit × Mm) :=
  ck (gK M p0 = 5) (bR (gR M p0 6) fun q1 => ck (gK M q1 = 10 ∧ inb p1 (gN M q1)) (nm (sI M q1 (p1).toNatClampNeg p2) fun M2 =>
  ck (gK M2 p0 = 5) (bR (gR M2 p0 8) fun q3 => ck (gK M2 q3 = 10 ∧ inb p1 (gN M2 q3)) (nm (sI M2 q3 (p1).toNatClampNeg p3) fun M4 =>
  ck (gK M4 p0 = 5) (bR (gR M4 p0 9) fun q5 => ck (gK M4 q5 = 10 ∧ inb p1 (gN M4 q5)) (nm (sI M4 q5 (p1).toNatClampNeg p4) fun M6 =>
  some ((), M6)))))))
set_option maxRecDepth 20000 in
set_option maxHeartbeats 4000000 in
theorem t_X5_retire (p0 : Nat) (p1 : Int32) (p2 : Int32) (p3 : Int32) (p4 : Int32) (M : Mm) (x : Unit) (M' : Mm) (h : f_X5_retire p0 p1 p2 p3 p4 M = some (x, M')) : Ctr yX5_retire cX5_retire 5 none rX5_retire (fun _ => [.ref p0, .int p1, .int p2, .int p3, .int p4]) M (zU x) M' := by
  refine ctr_of (plainFor_of_name (by decide)) (fun _ => Nat.le_of_ble_eq_true rfl) (fun z hz hin hq => ?_)
  have key : Sim z 0 [(0, .ref p0), (1, .int p1), (2, .int p2), (3, .int p3), (4, .int p4)] [] M 0 0 (f_X5_retire p0 p1 p2 p3 p4 M) (fun a b => a = x ∧ b = M') := by
    have hq : Ret z zU (fun a b => a = x ∧ b = M') := fun a b e => by rw [e.1, e.2]; exact hq
    unfold f_X5_retire
    refine r_aload_n hz dX5_retire_0 0 rfl ?_
    refine r_getR (j := 6) cl5 hz dX5_retire_1 (by decide) wm_1_155 rfl (fun q1 => ?_)
    refine r_iload_n hz dX5_retire_4 1 rfl ?_
    refine r_iload_n hz dX5_retire_5 2 rfl ?_
    refine r_iast hz dX5_retire_6 ?_
    refine r_nmM (fun M2 => ?_)
    refine r_aload_n hz dX5_retire_7 0 rfl ?_
    refine r_getR (j := 8) cl5 hz dX5_retire_8 (by decide) wm_1_161 rfl (fun q3 => ?_)
    refine r_iload_n hz dX5_retire_11 1 rfl ?_
    refine r_iload_n hz dX5_retire_12 3 rfl ?_
    refine r_iast hz dX5_retire_13 ?_
    refine r_nmM (fun M4 => ?_)
    refine r_aload_n hz dX5_retire_14 0 rfl ?_
    refine r_getR (j := 9) cl5 hz dX5_retire_15 (by decide) wm_1_165 rfl (fun q5 => ?_)
    refine r_iload_n hz dX5_retire_18 1 rfl ?_
    refine r_iload hz dX5_retire_19 4 rfl ?_
    refine r_iast hz dX5_retire_21 ?_
    refine r_nmM (fun M6 => ?_)
    exact r_vret hz hq dX5_retire_22 (Nat.le_of_ble_eq_true rfl) (Nat.le_of_ble_eq_true rfl)
  exact key x M' h ⟨rfl, rfl⟩
theorem dX5_countHeld_0 : decode cX5_countHeld 0 = .ok (.iconst 0, 1) := by decide +kernel
theorem dX5_countHeld_1 : decode cX5_countHeld 1 = .ok (.istore 5, 2) := by decide +kernel
theorem dX5_countHeld_3 : decode cX5_countHeld 3 = .ok (.iconst 1, 1) := by decide +kernel
theorem dX5_countHeld_4 : decode cX5_countHeld 4 = .ok (.istore 6, 2) := by decide +kernel
theorem dX5_countHeld_6 : decode cX5_countHeld 6 = .ok (.iload 6, 2) := by decide +kernel
theorem dX5_countHeld_8 : decode cX5_countHeld 8 = .ok (.aload_n 1, 1) := by decide +kernel
theorem dX5_countHeld_9 : decode cX5_countHeld 9 = .ok (.getfield 83, 3) := by decide +kernel
theorem dX5_countHeld_12 : decode cX5_countHeld 12 = .ok (.iload_n 2, 1) := by decide +kernel
theorem dX5_countHeld_13 : decode cX5_countHeld 13 = .ok (.iaload, 1) := by decide +kernel
theorem dX5_countHeld_14 : decode cX5_countHeld 14 = .ok (.if_icmp .gt 43, 3) := by decide +kernel
theorem dX5_countHeld_17 : decode cX5_countHeld 17 = .ok (.iload_n 2, 1) := by decide +kernel
theorem dX5_countHeld_18 : decode cX5_countHeld 18 = .ok (.iload 6, 2) := by decide +kernel
theorem dX5_countHeld_20 : decode cX5_countHeld 20 = .ok (.invokestatic 86, 3) := by decide +kernel
theorem dX5_countHeld_23 : decode cX5_countHeld 23 = .ok (.istore 7, 2) := by decide +kernel
theorem dX5_countHeld_25 : decode cX5_countHeld 25 = .ok (.aload_n 0, 1) := by decide +kernel
theorem dX5_countHeld_26 : decode cX5_countHeld 26 = .ok (.getfield 31, 3) := by decide +kernel
theorem dX5_countHeld_29 : decode cX5_countHeld 29 = .ok (.iload 7, 2) := by decide +kernel
theorem dX5_countHeld_31 : decode cX5_countHeld 31 = .ok (.iaload, 1) := by decide +kernel
theorem dX5_countHeld_32 : decode cX5_countHeld 32 = .ok (.iload_n 3, 1) := by decide +kernel
theorem dX5_countHeld_33 : decode cX5_countHeld 33 = .ok (.if_icmp .ne 18, 3) := by decide +kernel
theorem dX5_countHeld_36 : decode cX5_countHeld 36 = .ok (.aload_n 0, 1) := by decide +kernel
theorem dX5_countHeld_37 : decode cX5_countHeld 37 = .ok (.getfield 34, 3) := by decide +kernel
theorem dX5_countHeld_40 : decode cX5_countHeld 40 = .ok (.iload 7, 2) := by decide +kernel
theorem dX5_countHeld_42 : decode cX5_countHeld 42 = .ok (.iaload, 1) := by decide +kernel
theorem dX5_countHeld_43 : decode cX5_countHeld 43 = .ok (.iload 4, 2) := by decide +kernel
theorem dX5_countHeld_45 : decode cX5_countHeld 45 = .ok (.if_icmp .ne 6, 3) := by decide +kernel
theorem dX5_countHeld_48 : decode cX5_countHeld 48 = .ok (.iinc 5 1, 3) := by decide +kernel
theorem dX5_countHeld_51 : decode cX5_countHeld 51 = .ok (.iinc 6 1, 3) := by decide +kernel
theorem dX5_countHeld_54 : decode cX5_countHeld 54 = .ok (.goto (-48), 3) := by decide +kernel
theorem dX5_countHeld_57 : decode cX5_countHeld 57 = .ok (.iload 5, 2) := by decide +kernel
theorem dX5_countHeld_59 : decode cX5_countHeld 59 = .ok (.ireturn, 1) := by decide +kernel
abbrev rX5_countHeld : Room := { frames := 1, cells := 0, slots := 0, locals := 21 }
theorem cal_X5_countHeld : CalOk yX5_countHeld cX5_countHeld 8 (some .int) 4 := ⟨wm_3_156, wm_1_3, by decide, by decide, by decide +kernel⟩
def f_X5_countHeld_6 : Nat → Nat → Nat → Int32 → Int32 → Int32 → Int32 → Int32 → Mm → Option (Int32 × Mm)
  | 0, _, _, _, _, _, _, _, _ => none
  | n + 1, x0, x1, x2, x3, x4, x5, x6, M =>
    ck (gK M x1 = 6) (bR (gR M x1 6) fun q1 => ck (gK M q1 = 10 ∧ inb x2 (gN M q1)) ((if (gI M q1 (x2).toNatClampNeg) < x6 then
      some (x5, M)
    else
      bd (f_X7_spotOf x2 x6 M) fun v3 M2 =>
      ck (gK M2 x0 = 5) (bR (gR M2 x0 6) fun q4 => ck (gK M2 q4 = 10 ∧ inb v3 (gN M2 q4)) ((if ¬ (gI M2 q4 (v3).toNatClampNeg) = x3 then
        f_X5_countHeld_6 n x0 x1 x2 x3 x4 x5 (x6 + (1 : Int32)) M2
      else
        ck (gK M2 x0 = 5) (bR (gR M2 x0 7) fun q6 => ck (gK M2 q6 = 10 ∧ inb v3 (gN M2 q6)) ((if ¬ (gI M2 q6 (v3).toNatClampNeg) = x4 then
          f_X5_countHeld_6 n x0 x1 x2 x3 x4 x5 (x6 + (1 : Int32)) M2
        else
          f_X5_countHeld_6 n x0 x1 x2 x3 x4 (x5 + (1 : Int32)) (x6 + (1 : Int32)) M2)))))))))
set_option maxRecDepth 20000 in
set_option maxHeartbeats 4000000 in
theorem s_X5_countHeld_6 {z : Zt} {K : Int32 → Mm → Prop} (hz : Good z RX5 cX5_countHeld 8 rX5_countHeld (some .int)) (hq : Ret z zI K) : ∀ (n : Nat) (x0 : Nat) (x1 : Nat) (x2 : Int32) (x3 : Int32) (x4 : Int32) (x5 : Int32) (x6 : Int32) (M : Mm), Sim z 6 [(0, .ref x0), (1, .ref x1), (2, .int x2), (3, .int x3), (4, .int x4), (5, .int x5), (6, .int x6)] [] M 0 0 (f_X5_countHeld_6 n x0 x1 x2 x3 x4 x5 x6 M) K := by
  intro n
  induction n with
  | zero => exact fun _ _ _ _ _ _ _ _ => r_none
  | succ n ih =>
    intro x0 x1 x2 x3 x4 x5 x6 M
    unfold f_X5_countHeld_6
    refine r_iload hz dX5_countHeld_6 6 rfl ?_
    refine r_aload_n hz dX5_countHeld_8 1 rfl ?_
    refine r_getR (j := 6) cl6 hz dX5_countHeld_9 (by decide) wm_1_56 rfl (fun q1 => ?_)
    refine r_iload_n hz dX5_countHeld_12 2 rfl ?_
    refine r_iald hz dX5_countHeld_13 ?_
    refine r_icmp_gt (tgt := 57) hz dX5_countHeld_14 rfl ?_ ?_
    · refine r_iload hz dX5_countHeld_57 5 rfl ?_
      exact r_iret hz hq dX5_countHeld_59 (Nat.le_of_ble_eq_true rfl) (Nat.le_of_ble_eq_true rfl)
    · refine r_iload_n hz dX5_countHeld_17 2 rfl ?_
      refine r_iload hz dX5_countHeld_18 6 rfl ?_
      refine r_callSNi (As := fun _ => [.int x2, .int x6]) (host := "DrawnBonds") hz (fun _ _ h => t_X7_spotOf _ _ _ _ _ h) cal_X7_spotOf dX5_countHeld_20 (List.mem_of_getElem? (i := 11) rfl) wm_3_78 rfl rfl (Nat.le_of_ble_eq_true rfl) ⟨(Nat.le_of_ble_eq_true rfl), (Nat.le_of_ble_eq_true rfl)⟩ ⟨(Nat.le_of_ble_eq_true rfl), (Nat.le_of_ble_eq_true rfl)⟩ (fun v3 M2 => ?_)
      refine r_istore (lv' := [(7, .int v3), (0, .ref x0), (1, .ref x1), (2, .int x2), (3, .int x3), (4, .int x4), (5, .int x5), (6, .int x6)]) hz dX5_countHeld_23 (by decide) rfl ?_
      refine r_aload_n hz dX5_countHeld_25 1 rfl ?_
      refine r_getR (j := 6) cl5 hz dX5_countHeld_26 (by decide) wm_1_155 rfl (fun q4 => ?_)
      refine r_iload hz dX5_countHeld_29 0 rfl ?_
      refine r_iald hz dX5_countHeld_31 ?_
      refine r_iload_n hz dX5_countHeld_32 4 rfl ?_
      refine r_icmp_ne (tgt := 51) hz dX5_countHeld_33 rfl ?_ ?_
      · refine r_iinc (v := (x6 + (1 : Int32))) (lv' := [(6, .int (x6 + (1 : Int32))), (7, .int v3), (0, .ref x0), (1, .ref x1), (2, .int x2), (3, .int x3), (4, .int x4), (5, .int x5)]) hz dX5_countHeld_51 7 rfl rfl (by decide) rfl ?_
        refine r_goto (tgt := 6) hz dX5_countHeld_54 rfl ?_
        refine r_sub [2, 3, 4, 5, 6, 7, 0] rfl ?_
        exact ih x0 x1 x2 x3 x4 x5 (x6 + (1 : Int32)) M2
      · refine r_aload_n hz dX5_countHeld_36 1 rfl ?_
        refine r_getR (j := 7) cl5 hz dX5_countHeld_37 (by decide) wm_1_158 rfl (fun q6 => ?_)
        refine r_iload hz dX5_countHeld_40 0 rfl ?_
        refine r_iald hz dX5_countHeld_42 ?_
        refine r_iload hz dX5_countHeld_43 5 rfl ?_
        refine r_icmp_ne (tgt := 51) hz dX5_countHeld_45 rfl ?_ ?_
        · refine r_iinc (v := (x6 + (1 : Int32))) (lv' := [(6, .int (x6 + (1 : Int32))), (7, .int v3), (0, .ref x0), (1, .ref x1), (2, .int x2), (3, .int x3), (4, .int x4), (5, .int x5)]) hz dX5_countHeld_51 7 rfl rfl (by decide) rfl ?_
          refine r_goto (tgt := 6) hz dX5_countHeld_54 rfl ?_
          refine r_sub [2, 3, 4, 5, 6, 7, 0] rfl ?_
          exact ih x0 x1 x2 x3 x4 x5 (x6 + (1 : Int32)) M2
        · refine r_iinc (v := (x5 + (1 : Int32))) (lv' := [(5, .int (x5 + (1 : Int32))), (7, .int v3), (0, .ref x0), (1, .ref x1), (2, .int x2), (3, .int x3), (4, .int x4), (6, .int x6)]) hz dX5_countHeld_48 6 rfl rfl (by decide) rfl ?_
          refine r_iinc (v := (x6 + (1 : Int32))) (lv' := [(6, .int (x6 + (1 : Int32))), (5, .int (x5 + (1 : Int32))), (7, .int v3), (0, .ref x0), (1, .ref x1), (2, .int x2), (3, .int x3), (4, .int x4)]) hz dX5_countHeld_51 7 rfl rfl (by decide) rfl ?_
          refine r_goto (tgt := 6) hz dX5_countHeld_54 rfl ?_
          refine r_sub [3, 4, 5, 6, 7, 1, 0] rfl ?_
          exact ih x0 x1 x2 x3 x4 (x5 + (1 : Int32)) (x6 + (1 : Int32)) M2
def f_X5_countHeld (p0 : Nat) (p1 : Nat) (p2 : Int32) (p3 : Int32) (p4 : Int32) (M : Mm) : Option (Int32 × Mm) :=
  f_X5_countHeld_6 FU p0 p1 p2 p3 p4 (0 : Int32) (1 : Int32) M
set_option maxRecDepth 20000 in
set_option maxHeartbeats 4000000 in
theorem t_X5_countHeld (p0 : Nat) (p1 : Nat) (p2 : Int32) (p3 : Int32) (p4 : Int32) (M : Mm) (x : Int32) (M' : Mm) (h : f_X5_countHeld p0 p1 p2 p3 p4 M = some (x, M')) : Ctr yX5_countHeld cX5_countHeld 8 (some .int) rX5_countHeld (fun _ => [.ref p0, .ref p1, .int p2, .int p3, .int p4]) M (zI x) M' := by
  refine ctr_of (plainFor_of_name (by decide)) (fun _ => Nat.le_of_ble_eq_true rfl) (fun z hz hin hq => ?_)
  have key : Sim z 0 [(0, .ref p0), (1, .ref p1), (2, .int p2), (3, .int p3), (4, .int p4)] [] M 0 0 (f_X5_countHeld p0 p1 p2 p3 p4 M) (fun a b => a = x ∧ b = M') := by
    have hq : Ret z zI (fun a b => a = x ∧ b = M') := fun a b e => by rw [e.1, e.2]; exact hq
    unfold f_X5_countHeld
    refine r_iconst (v := 0) hz dX5_countHeld_0 rfl ?_
    refine r_istore (lv' := [(5, .int (0 : Int32)), (0, .ref p0), (1, .ref p1), (2, .int p2), (3, .int p3), (4, .int p4)]) hz dX5_countHeld_1 (by decide) rfl ?_
    refine r_iconst (v := 1) hz dX5_countHeld_3 rfl ?_
    refine r_istore (lv' := [(6, .int (1 : Int32)), (5, .int (0 : Int32)), (0, .ref p0), (1, .ref p1), (2, .int p2), (3, .int p3), (4, .int p4)]) hz dX5_countHeld_4 (by decide) rfl ?_
    refine r_sub [2, 3, 4, 5, 6, 1, 0] rfl ?_
    exact s_X5_countHeld_6 hz hq FU p0 p1 p2 p3 p4 (0 : Int32) (1 : Int32) M
  exact key x M' h ⟨rfl, rfl⟩
theorem dX5_countRetired_0 : decode cX5_countRetired 0 = .ok (.iconst 0, 1) := by decide +kernel
theorem dX5_countRetired_1 : decode cX5_countRetired 1 = .ok (.istore 4, 2) := by decide +kernel
theorem dX5_countRetired_3 : decode cX5_countRetired 3 = .ok (.iconst 1, 1) := by decide +kernel
theorem dX5_countRetired_4 : decode cX5_countRetired 4 = .ok (.istore 5, 2) := by decide +kernel
theorem dX5_countRetired_6 : decode cX5_countRetired 6 = .ok (.iload 5, 2) := by decide +kernel
theorem dX5_countRetired_8 : decode cX5_countRetired 8 = .ok (.aload_n 1, 1) := by decide +kernel
theorem dX5_countRetired_9 : decode cX5_countRetired 9 = .ok (.getfield 83, 3) := by decide +kernel
theorem dX5_countRetired_12 : decode cX5_countRetired 12 = .ok (.iload_n 2, 1) := by decide +kernel
theorem dX5_countRetired_13 : decode cX5_countRetired 13 = .ok (.iaload, 1) := by decide +kernel
theorem dX5_countRetired_14 : decode cX5_countRetired 14 = .ok (.if_icmp .gt 27, 3) := by decide +kernel
theorem dX5_countRetired_17 : decode cX5_countRetired 17 = .ok (.aload_n 0, 1) := by decide +kernel
theorem dX5_countRetired_18 : decode cX5_countRetired 18 = .ok (.getfield 37, 3) := by decide +kernel
theorem dX5_countRetired_21 : decode cX5_countRetired 21 = .ok (.iload_n 2, 1) := by decide +kernel
theorem dX5_countRetired_22 : decode cX5_countRetired 22 = .ok (.iload 5, 2) := by decide +kernel
theorem dX5_countRetired_24 : decode cX5_countRetired 24 = .ok (.invokestatic 86, 3) := by decide +kernel
theorem dX5_countRetired_27 : decode cX5_countRetired 27 = .ok (.iaload, 1) := by decide +kernel
theorem dX5_countRetired_28 : decode cX5_countRetired 28 = .ok (.iload_n 3, 1) := by decide +kernel
theorem dX5_countRetired_29 : decode cX5_countRetired 29 = .ok (.if_icmp .ne 6, 3) := by decide +kernel
theorem dX5_countRetired_32 : decode cX5_countRetired 32 = .ok (.iinc 4 1, 3) := by decide +kernel
theorem dX5_countRetired_35 : decode cX5_countRetired 35 = .ok (.iinc 5 1, 3) := by decide +kernel
theorem dX5_countRetired_38 : decode cX5_countRetired 38 = .ok (.goto (-32), 3) := by decide +kernel
theorem dX5_countRetired_41 : decode cX5_countRetired 41 = .ok (.iload 4, 2) := by decide +kernel
theorem dX5_countRetired_43 : decode cX5_countRetired 43 = .ok (.ireturn, 1) := by decide +kernel
abbrev rX5_countRetired : Room := { frames := 1, cells := 0, slots := 0, locals := 21 }
theorem cal_X5_countRetired : CalOk yX5_countRetired cX5_countRetired 6 (some .int) 3 := ⟨wm_4_177, wm_1_3, by decide, by decide, by decide +kernel⟩
def f_X5_countRetired_6 : Nat → Nat → Nat → Int32 → Int32 → Int32 → Int32 → Mm → Option (Int32 × Mm)
  | 0, _, _, _, _, _, _, _ => none
  | n + 1, x0, x1, x2, x3, x4, x5, M =>
    ck (gK M x1 = 6) (bR (gR M x1 6) fun q1 => ck (gK M q1 = 10 ∧ inb x2 (gN M q1)) ((if (gI M q1 (x2).toNatClampNeg) < x5 then
      some (x4, M)
    else
      ck (gK M x0 = 5) (bR (gR M x0 8) fun q2 => bd (f_X7_spotOf x2 x5 M) fun v4 M3 =>
      ck (gK M3 q2 = 10 ∧ inb v4 (gN M3 q2)) ((if ¬ (gI M3 q2 (v4).toNatClampNeg) = x3 then
        f_X5_countRetired_6 n x0 x1 x2 x3 x4 (x5 + (1 : Int32)) M3
      else
        f_X5_countRetired_6 n x0 x1 x2 x3 (x4 + (1 : Int32)) (x5 + (1 : Int32)) M3))))))
set_option maxRecDepth 20000 in
set_option maxHeartbeats 4000000 in
theorem s_X5_countRetired_6 {z : Zt} {K : Int32 → Mm → Prop} (hz : Good z RX5 cX5_countRetired 6 rX5_countRetired (some .int)) (hq : Ret z zI K) : ∀ (n : Nat) (x0 : Nat) (x1 : Nat) (x2 : Int32) (x3 : Int32) (x4 : Int32) (x5 : Int32) (M : Mm), Sim z 6 [(0, .ref x0), (1, .ref x1), (2, .int x2), (3, .int x3), (4, .int x4), (5, .int x5)] [] M 0 0 (f_X5_countRetired_6 n x0 x1 x2 x3 x4 x5 M) K := by
  intro n
  induction n with
  | zero => exact fun _ _ _ _ _ _ _ => r_none
  | succ n ih =>
    intro x0 x1 x2 x3 x4 x5 M
    unfold f_X5_countRetired_6
    refine r_iload hz dX5_countRetired_6 5 rfl ?_
    refine r_aload_n hz dX5_countRetired_8 1 rfl ?_
    refine r_getR (j := 6) cl6 hz dX5_countRetired_9 (by decide) wm_1_56 rfl (fun q1 => ?_)
    refine r_iload_n hz dX5_countRetired_12 2 rfl ?_
    refine r_iald hz dX5_countRetired_13 ?_
    refine r_icmp_gt (tgt := 41) hz dX5_countRetired_14 rfl ?_ ?_
    · refine r_iload hz dX5_countRetired_41 4 rfl ?_
      exact r_iret hz hq dX5_countRetired_43 (Nat.le_of_ble_eq_true rfl) (Nat.le_of_ble_eq_true rfl)
    · refine r_aload_n hz dX5_countRetired_17 0 rfl ?_
      refine r_getR (j := 8) cl5 hz dX5_countRetired_18 (by decide) wm_1_161 rfl (fun q2 => ?_)
      refine r_iload_n hz dX5_countRetired_21 2 rfl ?_
      refine r_iload hz dX5_countRetired_22 5 rfl ?_
      refine r_callSNi (As := fun _ => [.int x2, .int x5]) (host := "DrawnBonds") hz (fun _ _ h => t_X7_spotOf _ _ _ _ _ h) cal_X7_spotOf dX5_countRetired_24 (List.mem_of_getElem? (i := 11) rfl) wm_3_78 rfl rfl (Nat.le_of_ble_eq_true rfl) ⟨(Nat.le_of_ble_eq_true rfl), (Nat.le_of_ble_eq_true rfl)⟩ ⟨(Nat.le_of_ble_eq_true rfl), (Nat.le_of_ble_eq_true rfl)⟩ (fun v4 M3 => ?_)
      refine r_iald hz dX5_countRetired_27 ?_
      refine r_iload_n hz dX5_countRetired_28 3 rfl ?_
      refine r_icmp_ne (tgt := 35) hz dX5_countRetired_29 rfl ?_ ?_
      · refine r_iinc (v := (x5 + (1 : Int32))) (lv' := [(5, .int (x5 + (1 : Int32))), (0, .ref x0), (1, .ref x1), (2, .int x2), (3, .int x3), (4, .int x4)]) hz dX5_countRetired_35 5 rfl rfl (by decide) rfl ?_
        refine r_goto (tgt := 6) hz dX5_countRetired_38 rfl ?_
        refine r_sub [1, 2, 3, 4, 5, 0] rfl ?_
        exact ih x0 x1 x2 x3 x4 (x5 + (1 : Int32)) M3
      · refine r_iinc (v := (x4 + (1 : Int32))) (lv' := [(4, .int (x4 + (1 : Int32))), (0, .ref x0), (1, .ref x1), (2, .int x2), (3, .int x3), (5, .int x5)]) hz dX5_countRetired_32 4 rfl rfl (by decide) rfl ?_
        refine r_iinc (v := (x5 + (1 : Int32))) (lv' := [(5, .int (x5 + (1 : Int32))), (4, .int (x4 + (1 : Int32))), (0, .ref x0), (1, .ref x1), (2, .int x2), (3, .int x3)]) hz dX5_countRetired_35 5 rfl rfl (by decide) rfl ?_
        refine r_goto (tgt := 6) hz dX5_countRetired_38 rfl ?_
        refine r_sub [2, 3, 4, 5, 1, 0] rfl ?_
        exact ih x0 x1 x2 x3 (x4 + (1 : Int32)) (x5 + (1 : Int32)) M3
def f_X5_countRetired (p0 : Nat) (p1 : Nat) (p2 : Int32) (p3 : Int32) (M : Mm) : Option (Int32 × Mm) :=
  f_X5_countRetired_6 FU p0 p1 p2 p3 (0 : Int32) (1 : Int32) M
set_option maxRecDepth 20000 in
set_option maxHeartbeats 4000000 in
theorem t_X5_countRetired (p0 : Nat) (p1 : Nat) (p2 : Int32) (p3 : Int32) (M : Mm) (x : Int32) (M' : Mm) (h : f_X5_countRetired p0 p1 p2 p3 M = some (x, M')) : Ctr yX5_countRetired cX5_countRetired 6 (some .int) rX5_countRetired (fun _ => [.ref p0, .ref p1, .int p2, .int p3]) M (zI x) M' := by
  refine ctr_of (plainFor_of_name (by decide)) (fun _ => Nat.le_of_ble_eq_true rfl) (fun z hz hin hq => ?_)
  have key : Sim z 0 [(0, .ref p0), (1, .ref p1), (2, .int p2), (3, .int p3)] [] M 0 0 (f_X5_countRetired p0 p1 p2 p3 M) (fun a b => a = x ∧ b = M') := by
    have hq : Ret z zI (fun a b => a = x ∧ b = M') := fun a b e => by rw [e.1, e.2]; exact hq
    unfold f_X5_countRetired
    refine r_iconst (v := 0) hz dX5_countRetired_0 rfl ?_
    refine r_istore (lv' := [(4, .int (0 : Int32)), (0, .ref p0), (1, .ref p1), (2, .int p2), (3, .int p3)]) hz dX5_countRetired_1 (by decide) rfl ?_
    refine r_iconst (v := 1) hz dX5_countRetired_3 rfl ?_
    refine r_istore (lv' := [(5, .int (1 : Int32)), (4, .int (0 : Int32)), (0, .ref p0), (1, .ref p1), (2, .int p2), (3, .int p3)]) hz dX5_countRetired_4 (by decide) rfl ?_
    refine r_sub [2, 3, 4, 5, 1, 0] rfl ?_
    exact s_X5_countRetired_6 hz hq FU p0 p1 p2 p3 (0 : Int32) (1 : Int32) M
  exact key x M' h ⟨rfl, rfl⟩
theorem dX5_drawnAs_0 : decode cX5_drawnAs 0 = .ok (.iconst 1, 1) := by decide +kernel
theorem dX5_drawnAs_1 : decode cX5_drawnAs 1 = .ok (.istore 5, 2) := by decide +kernel
theorem dX5_drawnAs_3 : decode cX5_drawnAs 3 = .ok (.iload 5, 2) := by decide +kernel
theorem dX5_drawnAs_5 : decode cX5_drawnAs 5 = .ok (.aload_n 1, 1) := by decide +kernel
theorem dX5_drawnAs_6 : decode cX5_drawnAs 6 = .ok (.getfield 83, 3) := by decide +kernel
theorem dX5_drawnAs_9 : decode cX5_drawnAs 9 = .ok (.iload_n 2, 1) := by decide +kernel
theorem dX5_drawnAs_10 : decode cX5_drawnAs 10 = .ok (.iaload, 1) := by decide +kernel
theorem dX5_drawnAs_11 : decode cX5_drawnAs 11 = .ok (.if_icmp .gt 43, 3) := by decide +kernel
theorem dX5_drawnAs_14 : decode cX5_drawnAs 14 = .ok (.iload_n 2, 1) := by decide +kernel
theorem dX5_drawnAs_15 : decode cX5_drawnAs 15 = .ok (.iload 5, 2) := by decide +kernel
theorem dX5_drawnAs_17 : decode cX5_drawnAs 17 = .ok (.invokestatic 86, 3) := by decide +kernel
theorem dX5_drawnAs_20 : decode cX5_drawnAs 20 = .ok (.istore 6, 2) := by decide +kernel
theorem dX5_drawnAs_22 : decode cX5_drawnAs 22 = .ok (.aload_n 0, 1) := by decide +kernel
theorem dX5_drawnAs_23 : decode cX5_drawnAs 23 = .ok (.getfield 37, 3) := by decide +kernel
theorem dX5_drawnAs_26 : decode cX5_drawnAs 26 = .ok (.iload 6, 2) := by decide +kernel
theorem dX5_drawnAs_28 : decode cX5_drawnAs 28 = .ok (.iaload, 1) := by decide +kernel
theorem dX5_drawnAs_29 : decode cX5_drawnAs 29 = .ok (.iload_n 3, 1) := by decide +kernel
theorem dX5_drawnAs_30 : decode cX5_drawnAs 30 = .ok (.if_icmp .ne 18, 3) := by decide +kernel
theorem dX5_drawnAs_33 : decode cX5_drawnAs 33 = .ok (.aload_n 0, 1) := by decide +kernel
theorem dX5_drawnAs_34 : decode cX5_drawnAs 34 = .ok (.getfield 40, 3) := by decide +kernel
theorem dX5_drawnAs_37 : decode cX5_drawnAs 37 = .ok (.iload 6, 2) := by decide +kernel
theorem dX5_drawnAs_39 : decode cX5_drawnAs 39 = .ok (.iaload, 1) := by decide +kernel
theorem dX5_drawnAs_40 : decode cX5_drawnAs 40 = .ok (.iload 4, 2) := by decide +kernel
theorem dX5_drawnAs_42 : decode cX5_drawnAs 42 = .ok (.if_icmp .ne 6, 3) := by decide +kernel
theorem dX5_drawnAs_45 : decode cX5_drawnAs 45 = .ok (.iload 5, 2) := by decide +kernel
theorem dX5_drawnAs_47 : decode cX5_drawnAs 47 = .ok (.ireturn, 1) := by decide +kernel
theorem dX5_drawnAs_48 : decode cX5_drawnAs 48 = .ok (.iinc 5 1, 3) := by decide +kernel
theorem dX5_drawnAs_51 : decode cX5_drawnAs 51 = .ok (.goto (-48), 3) := by decide +kernel
theorem dX5_drawnAs_54 : decode cX5_drawnAs 54 = .ok (.iconst 0, 1) := by decide +kernel
theorem dX5_drawnAs_55 : decode cX5_drawnAs 55 = .ok (.ireturn, 1) := by decide +kernel
abbrev rX5_drawnAs : Room := { frames := 1, cells := 0, slots := 0, locals := 21 }
theorem cal_X5_drawnAs : CalOk yX5_drawnAs cX5_drawnAs 7 (some .int) 4 := ⟨wm_4_181, wm_1_3, by decide, by decide, by decide +kernel⟩
def f_X5_drawnAs_3 : Nat → Nat → Nat → Int32 → Int32 → Int32 → Int32 → Mm → Option (Int32 × Mm)
  | 0, _, _, _, _, _, _, _ => none
  | n + 1, x0, x1, x2, x3, x4, x5, M =>
    ck (gK M x1 = 6) (bR (gR M x1 6) fun q1 => ck (gK M q1 = 10 ∧ inb x2 (gN M q1)) ((if (gI M q1 (x2).toNatClampNeg) < x5 then
      some ((0 : Int32), M)
    else
      bd (f_X7_spotOf x2 x5 M) fun v3 M2 =>
      ck (gK M2 x0 = 5) (bR (gR M2 x0 8) fun q4 => ck (gK M2 q4 = 10 ∧ inb v3 (gN M2 q4)) ((if ¬ (gI M2 q4 (v3).toNatClampNeg) = x3 then
        f_X5_drawnAs_3 n x0 x1 x2 x3 x4 (x5 + (1 : Int32)) M2
      else
        ck (gK M2 x0 = 5) (bR (gR M2 x0 9) fun q6 => ck (gK M2 q6 = 10 ∧ inb v3 (gN M2 q6)) ((if ¬ (gI M2 q6 (v3).toNatClampNeg) = x4 then
          f_X5_drawnAs_3 n x0 x1 x2 x3 x4 (x5 + (1 : Int32)) M2
        else
          some (x5, M2))))))))))
set_option maxRecDepth 20000 in
set_option maxHeartbeats 4000000 in
theorem s_X5_drawnAs_3 {z : Zt} {K : Int32 → Mm → Prop} (hz : Good z RX5 cX5_drawnAs 7 rX5_drawnAs (some .int)) (hq : Ret z zI K) : ∀ (n : Nat) (x0 : Nat) (x1 : Nat) (x2 : Int32) (x3 : Int32) (x4 : Int32) (x5 : Int32) (M : Mm), Sim z 3 [(0, .ref x0), (1, .ref x1), (2, .int x2), (3, .int x3), (4, .int x4), (5, .int x5)] [] M 0 0 (f_X5_drawnAs_3 n x0 x1 x2 x3 x4 x5 M) K := by
  intro n
  induction n with
  | zero => exact fun _ _ _ _ _ _ _ => r_none
  | succ n ih =>
    intro x0 x1 x2 x3 x4 x5 M
    unfold f_X5_drawnAs_3
    refine r_iload hz dX5_drawnAs_3 5 rfl ?_
    refine r_aload_n hz dX5_drawnAs_5 1 rfl ?_
    refine r_getR (j := 6) cl6 hz dX5_drawnAs_6 (by decide) wm_1_56 rfl (fun q1 => ?_)
    refine r_iload_n hz dX5_drawnAs_9 2 rfl ?_
    refine r_iald hz dX5_drawnAs_10 ?_
    refine r_icmp_gt (tgt := 54) hz dX5_drawnAs_11 rfl ?_ ?_
    · refine r_iconst (v := 0) hz dX5_drawnAs_54 rfl ?_
      exact r_iret hz hq dX5_drawnAs_55 (Nat.le_of_ble_eq_true rfl) (Nat.le_of_ble_eq_true rfl)
    · refine r_iload_n hz dX5_drawnAs_14 2 rfl ?_
      refine r_iload hz dX5_drawnAs_15 5 rfl ?_
      refine r_callSNi (As := fun _ => [.int x2, .int x5]) (host := "DrawnBonds") hz (fun _ _ h => t_X7_spotOf _ _ _ _ _ h) cal_X7_spotOf dX5_drawnAs_17 (List.mem_of_getElem? (i := 11) rfl) wm_3_78 rfl rfl (Nat.le_of_ble_eq_true rfl) ⟨(Nat.le_of_ble_eq_true rfl), (Nat.le_of_ble_eq_true rfl)⟩ ⟨(Nat.le_of_ble_eq_true rfl), (Nat.le_of_ble_eq_true rfl)⟩ (fun v3 M2 => ?_)
      refine r_istore (lv' := [(6, .int v3), (0, .ref x0), (1, .ref x1), (2, .int x2), (3, .int x3), (4, .int x4), (5, .int x5)]) hz dX5_drawnAs_20 (by decide) rfl ?_
      refine r_aload_n hz dX5_drawnAs_22 1 rfl ?_
      refine r_getR (j := 8) cl5 hz dX5_drawnAs_23 (by decide) wm_1_161 rfl (fun q4 => ?_)
      refine r_iload hz dX5_drawnAs_26 0 rfl ?_
      refine r_iald hz dX5_drawnAs_28 ?_
      refine r_iload_n hz dX5_drawnAs_29 4 rfl ?_
      refine r_icmp_ne (tgt := 48) hz dX5_drawnAs_30 rfl ?_ ?_
      · refine r_iinc (v := (x5 + (1 : Int32))) (lv' := [(5, .int (x5 + (1 : Int32))), (6, .int v3), (0, .ref x0), (1, .ref x1), (2, .int x2), (3, .int x3), (4, .int x4)]) hz dX5_drawnAs_48 6 rfl rfl (by decide) rfl ?_
        refine r_goto (tgt := 3) hz dX5_drawnAs_51 rfl ?_
        refine r_sub [2, 3, 4, 5, 6, 0] rfl ?_
        exact ih x0 x1 x2 x3 x4 (x5 + (1 : Int32)) M2
      · refine r_aload_n hz dX5_drawnAs_33 1 rfl ?_
        refine r_getR (j := 9) cl5 hz dX5_drawnAs_34 (by decide) wm_1_165 rfl (fun q6 => ?_)
        refine r_iload hz dX5_drawnAs_37 0 rfl ?_
        refine r_iald hz dX5_drawnAs_39 ?_
        refine r_iload hz dX5_drawnAs_40 5 rfl ?_
        refine r_icmp_ne (tgt := 48) hz dX5_drawnAs_42 rfl ?_ ?_
        · refine r_iinc (v := (x5 + (1 : Int32))) (lv' := [(5, .int (x5 + (1 : Int32))), (6, .int v3), (0, .ref x0), (1, .ref x1), (2, .int x2), (3, .int x3), (4, .int x4)]) hz dX5_drawnAs_48 6 rfl rfl (by decide) rfl ?_
          refine r_goto (tgt := 3) hz dX5_drawnAs_51 rfl ?_
          refine r_sub [2, 3, 4, 5, 6, 0] rfl ?_
          exact ih x0 x1 x2 x3 x4 (x5 + (1 : Int32)) M2
        · refine r_iload hz dX5_drawnAs_45 6 rfl ?_
          exact r_iret hz hq dX5_drawnAs_47 (Nat.le_of_ble_eq_true rfl) (Nat.le_of_ble_eq_true rfl)
def f_X5_drawnAs (p0 : Nat) (p1 : Nat) (p2 : Int32) (p3 : Int32) (p4 : Int32) (M : Mm) : Option (Int32 × Mm) :=
  f_X5_drawnAs_3 FU p0 p1 p2 p3 p4 (1 : Int32) M
set_option maxRecDepth 20000 in
set_option maxHeartbeats 4000000 in
theorem t_X5_drawnAs (p0 : Nat) (p1 : Nat) (p2 : Int32) (p3 : Int32) (p4 : Int32) (M : Mm) (x : Int32) (M' : Mm) (h : f_X5_drawnAs p0 p1 p2 p3 p4 M = some (x, M')) : Ctr yX5_drawnAs cX5_drawnAs 7 (some .int) rX5_drawnAs (fun _ => [.ref p0, .ref p1, .int p2, .int p3, .int p4]) M (zI x) M' := by
  refine ctr_of (plainFor_of_name (by decide)) (fun _ => Nat.le_of_ble_eq_true rfl) (fun z hz hin hq => ?_)
  have key : Sim z 0 [(0, .ref p0), (1, .ref p1), (2, .int p2), (3, .int p3), (4, .int p4)] [] M 0 0 (f_X5_drawnAs p0 p1 p2 p3 p4 M) (fun a b => a = x ∧ b = M') := by
    have hq : Ret z zI (fun a b => a = x ∧ b = M') := fun a b e => by rw [e.1, e.2]; exact hq
    unfold f_X5_drawnAs
    refine r_iconst (v := 1) hz dX5_drawnAs_0 rfl ?_
    refine r_istore (lv' := [(5, .int (1 : Int32)), (0, .ref p0), (1, .ref p1), (2, .int p2), (3, .int p3), (4, .int p4)]) hz dX5_drawnAs_1 (by decide) rfl ?_
    refine r_sub [1, 2, 3, 4, 5, 0] rfl ?_
    exact s_X5_drawnAs_3 hz hq FU p0 p1 p2 p3 p4 (1 : Int32) M
  exact key x M' h ⟨rfl, rfl⟩
theorem dX6_prizeOf_0 : decode cX6_prizeOf 0 = .ok (.iload_n 2, 1) := by decide +kernel
theorem dX6_prizeOf_1 : decode cX6_prizeOf 1 = .ok (.iconst 1, 1) := by decide +kernel
theorem dX6_prizeOf_2 : decode cX6_prizeOf 2 = .ok (.if_icmp .lt 22, 3) := by decide +kernel
theorem dX6_prizeOf_5 : decode cX6_prizeOf 5 = .ok (.iload_n 2, 1) := by decide +kernel
theorem dX6_prizeOf_6 : decode cX6_prizeOf 6 = .ok (.bipush 9, 2) := by decide +kernel
theorem dX6_prizeOf_8 : decode cX6_prizeOf 8 = .ok (.if_icmp .gt 16, 3) := by decide +kernel
theorem dX6_prizeOf_11 : decode cX6_prizeOf 11 = .ok (.aload_n 0, 1) := by decide +kernel
theorem dX6_prizeOf_12 : decode cX6_prizeOf 12 = .ok (.getfield 61, 3) := by decide +kernel
theorem dX6_prizeOf_15 : decode cX6_prizeOf 15 = .ok (.iload_n 1, 1) := by decide +kernel
theorem dX6_prizeOf_16 : decode cX6_prizeOf 16 = .ok (.iload_n 2, 1) := by decide +kernel
theorem dX6_prizeOf_17 : decode cX6_prizeOf 17 = .ok (.invokestatic 77, 3) := by decide +kernel
theorem dX6_prizeOf_20 : decode cX6_prizeOf 20 = .ok (.iaload, 1) := by decide +kernel
theorem dX6_prizeOf_21 : decode cX6_prizeOf 21 = .ok (.goto 4, 3) := by decide +kernel
theorem dX6_prizeOf_24 : decode cX6_prizeOf 24 = .ok (.iconst 0, 1) := by decide +kernel
theorem dX6_prizeOf_25 : decode cX6_prizeOf 25 = .ok (.ireturn, 1) := by decide +kernel
abbrev rX6_prizeOf : Room := { frames := 1, cells := 0, slots := 0, locals := 21 }
theorem cal_X6_prizeOf : CalOk yX6_prizeOf cX6_prizeOf 3 (some .int) 2 := ⟨wm_3_181, wm_1_2, by decide, by decide, by decide +kernel⟩
def f_X6_prizeOf (p0 : Nat) (p1 : Int32) (p2 : Int32) (M : Mm) : Option (Int32 × Mm) :=
  (if p2 < (1 : Int32) then
    some ((0 : Int32), M)
  else
    (if (9 : Int32) < p2 then
      some ((0 : Int32), M)
    else
      ck (gK M p0 = 6) (bR (gR M p0 16) fun q1 => bd (f_X6_rankOf p1 p2 M) fun v3 M2 =>
      ck (gK M2 q1 = 10 ∧ inb v3 (gN M2 q1)) (some ((gI M2 q1 (v3).toNatClampNeg), M2)))))
set_option maxRecDepth 20000 in
set_option maxHeartbeats 4000000 in
theorem t_X6_prizeOf (p0 : Nat) (p1 : Int32) (p2 : Int32) (M : Mm) (x : Int32) (M' : Mm) (h : f_X6_prizeOf p0 p1 p2 M = some (x, M')) : Ctr yX6_prizeOf cX6_prizeOf 3 (some .int) rX6_prizeOf (fun _ => [.ref p0, .int p1, .int p2]) M (zI x) M' := by
  refine ctr_of (plainFor_of_name (by decide)) (fun _ => Nat.le_of_ble_eq_true rfl) (fun z hz hin hq => ?_)
  have key : Sim z 0 [(0, .ref p0), (1, .int p1), (2, .int p2)] [] M 0 0 (f_X6_prizeOf p0 p1 p2 M) (fun a b => a = x ∧ b = M') := by
    have hq : Ret z zI (fun a b => a = x ∧ b = M') := fun a b e => by rw [e.1, e.2]; exact hq
    unfold f_X6_prizeOf
    refine r_iload_n hz dX6_prizeOf_0 2 rfl ?_
    refine r_iconst (v := 1) hz dX6_prizeOf_1 rfl ?_
    refine r_icmp_lt (tgt := 24) hz dX6_prizeOf_2 rfl ?_ ?_
    · refine r_iconst (v := 0) hz dX6_prizeOf_24 rfl ?_
      exact r_iret hz hq dX6_prizeOf_25 (Nat.le_of_ble_eq_true rfl) (Nat.le_of_ble_eq_true rfl)
    · refine r_iload_n hz dX6_prizeOf_5 2 rfl ?_
      refine r_bipush (v := 9) hz dX6_prizeOf_6 rfl ?_
      refine r_icmp_gt (tgt := 24) hz dX6_prizeOf_8 rfl ?_ ?_
      · refine r_iconst (v := 0) hz dX6_prizeOf_24 rfl ?_
        exact r_iret hz hq dX6_prizeOf_25 (Nat.le_of_ble_eq_true rfl) (Nat.le_of_ble_eq_true rfl)
      · refine r_aload_n hz dX6_prizeOf_11 0 rfl ?_
        refine r_getR (j := 16) cl6 hz dX6_prizeOf_12 (by decide) wm_1_90 rfl (fun q1 => ?_)
        refine r_iload_n hz dX6_prizeOf_15 1 rfl ?_
        refine r_iload_n hz dX6_prizeOf_16 2 rfl ?_
        refine r_callSi (As := fun _ => [.int p1, .int p2]) hz (fun _ _ h => t_X6_rankOf _ _ _ _ _ h) cal_X6_rankOf dX6_prizeOf_17 wm_3_182 wm_3_89 rfl rfl (Nat.le_of_ble_eq_true rfl) ⟨(Nat.le_of_ble_eq_true rfl), (Nat.le_of_ble_eq_true rfl)⟩ ⟨(Nat.le_of_ble_eq_true rfl), (Nat.le_of_ble_eq_true rfl)⟩ (fun v3 M2 => ?_)
        refine r_iald hz dX6_prizeOf_20 ?_
        refine r_goto (tgt := 25) hz dX6_prizeOf_21 rfl ?_
        exact r_iret hz hq dX6_prizeOf_25 (Nat.le_of_ble_eq_true rfl) (Nat.le_of_ble_eq_true rfl)
  exact key x M' h ⟨rfl, rfl⟩
theorem dX7_init_0 : decode cX7_init 0 = .ok (.aload_n 0, 1) := by decide +kernel
theorem dX7_init_1 : decode cX7_init 1 = .ok (.invokespecial 1, 3) := by decide +kernel
theorem dX7_init_4 : decode cX7_init 4 = .ok (.aload_n 0, 1) := by decide +kernel
theorem dX7_init_5 : decode cX7_init 5 = .ok (.new 7, 3) := by decide +kernel
theorem dX7_init_8 : decode cX7_init 8 = .ok (.dup, 1) := by decide +kernel
theorem dX7_init_9 : decode cX7_init 9 = .ok (.invokespecial 9, 3) := by decide +kernel
theorem dX7_init_12 : decode cX7_init 12 = .ok (.putfield 10, 3) := by decide +kernel
theorem dX7_init_15 : decode cX7_init 15 = .ok (.aload_n 0, 1) := by decide +kernel
theorem dX7_init_16 : decode cX7_init 16 = .ok (.new 16, 3) := by decide +kernel
theorem dX7_init_19 : decode cX7_init 19 = .ok (.dup, 1) := by decide +kernel
theorem dX7_init_20 : decode cX7_init 20 = .ok (.invokespecial 18, 3) := by decide +kernel
theorem dX7_init_23 : decode cX7_init 23 = .ok (.putfield 19, 3) := by decide +kernel
theorem dX7_init_26 : decode cX7_init 26 = .ok (.aload_n 0, 1) := by decide +kernel
theorem dX7_init_27 : decode cX7_init 27 = .ok (.bipush 12, 2) := by decide +kernel
theorem dX7_init_29 : decode cX7_init 29 = .ok (.anewarray 16, 3) := by decide +kernel
theorem dX7_init_32 : decode cX7_init 32 = .ok (.putfield 23, 3) := by decide +kernel
theorem dX7_init_35 : decode cX7_init 35 = .ok (.aload_n 0, 1) := by decide +kernel
theorem dX7_init_36 : decode cX7_init 36 = .ok (.iconst 0, 1) := by decide +kernel
theorem dX7_init_37 : decode cX7_init 37 = .ok (.putfield 27, 3) := by decide +kernel
theorem dX7_init_40 : decode cX7_init 40 = .ok (.aload_n 0, 1) := by decide +kernel
theorem dX7_init_41 : decode cX7_init 41 = .ok (.iconst 2, 1) := by decide +kernel
theorem dX7_init_42 : decode cX7_init 42 = .ok (.anewarray 16, 3) := by decide +kernel
theorem dX7_init_45 : decode cX7_init 45 = .ok (.putfield 31, 3) := by decide +kernel
theorem dX7_init_48 : decode cX7_init 48 = .ok (.aload_n 0, 1) := by decide +kernel
theorem dX7_init_49 : decode cX7_init 49 = .ok (.iconst 2, 1) := by decide +kernel
theorem dX7_init_50 : decode cX7_init 50 = .ok (.newarray .boolean, 2) := by decide +kernel
theorem dX7_init_52 : decode cX7_init 52 = .ok (.putfield 34, 3) := by decide +kernel
theorem dX7_init_55 : decode cX7_init 55 = .ok (.aload_n 0, 1) := by decide +kernel
theorem dX7_init_56 : decode cX7_init 56 = .ok (.lconst 1, 1) := by decide +kernel
theorem dX7_init_57 : decode cX7_init 57 = .ok (.putfield 38, 3) := by decide +kernel
theorem dX7_init_60 : decode cX7_init 60 = .ok (.aload_n 0, 1) := by decide +kernel
theorem dX7_init_61 : decode cX7_init 61 = .ok (.new 42, 3) := by decide +kernel
theorem dX7_init_64 : decode cX7_init 64 = .ok (.dup, 1) := by decide +kernel
theorem dX7_init_65 : decode cX7_init 65 = .ok (.invokespecial 44, 3) := by decide +kernel
theorem dX7_init_68 : decode cX7_init 68 = .ok (.putfield 45, 3) := by decide +kernel
theorem dX7_init_71 : decode cX7_init 71 = .ok (.aload_n 0, 1) := by decide +kernel
theorem dX7_init_72 : decode cX7_init 72 = .ok (.new 49, 3) := by decide +kernel
theorem dX7_init_75 : decode cX7_init 75 = .ok (.dup, 1) := by decide +kernel
theorem dX7_init_76 : decode cX7_init 76 = .ok (.invokespecial 51, 3) := by decide +kernel
theorem dX7_init_79 : decode cX7_init 79 = .ok (.putfield 52, 3) := by decide +kernel
theorem dX7_init_82 : decode cX7_init 82 = .ok (.aload_n 0, 1) := by decide +kernel
theorem dX7_init_83 : decode cX7_init 83 = .ok (.new 56, 3) := by decide +kernel
theorem dX7_init_86 : decode cX7_init 86 = .ok (.dup, 1) := by decide +kernel
theorem dX7_init_87 : decode cX7_init 87 = .ok (.invokespecial 58, 3) := by decide +kernel
theorem dX7_init_90 : decode cX7_init 90 = .ok (.putfield 59, 3) := by decide +kernel
theorem dX7_init_93 : decode cX7_init 93 = .ok (.aload_n 0, 1) := by decide +kernel
theorem dX7_init_94 : decode cX7_init 94 = .ok (.new 63, 3) := by decide +kernel
theorem dX7_init_97 : decode cX7_init 97 = .ok (.dup, 1) := by decide +kernel
theorem dX7_init_98 : decode cX7_init 98 = .ok (.invokespecial 65, 3) := by decide +kernel
theorem dX7_init_101 : decode cX7_init 101 = .ok (.putfield 66, 3) := by decide +kernel
theorem dX7_init_104 : decode cX7_init 104 = .ok (.aload_n 0, 1) := by decide +kernel
theorem dX7_init_105 : decode cX7_init 105 = .ok (.new 70, 3) := by decide +kernel
theorem dX7_init_108 : decode cX7_init 108 = .ok (.dup, 1) := by decide +kernel
theorem dX7_init_109 : decode cX7_init 109 = .ok (.invokespecial 72, 3) := by decide +kernel
theorem dX7_init_112 : decode cX7_init 112 = .ok (.putfield 73, 3) := by decide +kernel
theorem dX7_init_115 : decode cX7_init 115 = .ok (.return_, 1) := by decide +kernel
abbrev rX7_init : Room := { frames := 3, cells := 58, slots := 2982, locals := 60 }
theorem cal_X7_init : CalOk yX7_init cX7_init 1 none 0 := ⟨wm_1_25, wm_1_1, by decide, by decide, by decide +kernel⟩
def f_X7_init (p0 : Nat) (M : Mm) : Option (Unit × Mm) :=
  nm (gT M) fun q1 => nm (sN M 6 18) fun M2 =>
  bd (f_X6_init q1 M2) fun _ M3 =>
  ck (gK M3 p0 = 7) (nm (sR M3 p0 0 (some q1)) fun M4 =>
  nm (gT M4) fun q5 => nm (sN M4 5 10) fun M6 =>
  bd (f_X5_init q5 M6) fun _ M7 =>
  ck (gK M7 p0 = 7) (nm (sR M7 p0 1 (some q5)) fun M8 =>
  nm (gT M8) fun q9 => nm (sN M8 12 12) fun M10 =>
  ck (gK M10 p0 = 7) (nm (sR M10 p0 2 (some q9)) fun M11 =>
  ck (gK M11 p0 = 7) (nm (sI M11 p0 3 (0 : Int32)) fun M12 =>
  nm (gT M12) fun q13 => nm (sN M12 12 2) fun M14 =>
  ck (gK M14 p0 = 7) (nm (sR M14 p0 4 (some q13)) fun M15 =>
  nm (gT M15) fun q16 => nm (sN M15 11 2) fun M17 =>
  ck (gK M17 p0 = 7) (nm (sR M17 p0 5 (some q16)) fun M18 =>
  ck (gK M18 p0 = 7) (nm (sL M18 p0 6 (1 : Int64)) fun M19 =>
  nm (gT M19) fun q20 => nm (sN M19 3 9) fun M21 =>
  bd (f_X3_init q20 M21) fun _ M22 =>
  ck (gK M22 p0 = 7) (nm (sR M22 p0 7 (some q20)) fun M23 =>
  nm (gT M23) fun q24 => nm (sN M23 4 17) fun M25 =>
  bd (f_X4_init q24 M25) fun _ M26 =>
  ck (gK M26 p0 = 7) (nm (sR M26 p0 8 (some q24)) fun M27 =>
  nm (gT M27) fun q28 => nm (sN M27 1 3) fun M29 =>
  bd (f_X1_init q28 M29) fun _ M30 =>
  ck (gK M30 p0 = 7) (nm (sR M30 p0 9 (some q28)) fun M31 =>
  nm (gT M31) fun q32 => nm (sN M31 0 2) fun M33 =>
  bd (f_X0_init q32 M33) fun _ M34 =>
  ck (gK M34 p0 = 7) (nm (sR M34 p0 10 (some q32)) fun M35 =>
  nm (gT M35) fun q36 => nm (sN M35 2 2) fun M37 =>
  bd (f_X2_init q36 M37) fun _ M38 =>
  ck (gK M38 p0 = 7) (nm (sR M38 p0 11 (some q36)) fun M39 =>
  some ((), M39)))))))))))))
set_option maxRecDepth 20000 in
set_option maxHeartbeats 4000000 in
theorem t_X7_init (p0 : Nat) (M : Mm) (x : Unit) (M' : Mm) (h : f_X7_init p0 M = some (x, M')) : Ctr yX7_init cX7_init 1 none rX7_init (fun _ => [.ref p0]) M (zU x) M' := by
  refine ctr_of (plainFor_of_name (by decide)) (fun _ => Nat.le_of_ble_eq_true rfl) (fun z hz hin hq => ?_)
  have key : Sim z 0 [(0, .ref p0)] [] M 0 0 (f_X7_init p0 M) (fun a b => a = x ∧ b = M') := by
    have hq : Ret z zU (fun a b => a = x ∧ b = M') := fun a b e => by rw [e.1, e.2]; exact hq
    have hin := hin rfl
    unfold f_X7_init
    refine r_aload_n hz dX7_init_0 0 rfl ?_
    refine r_objInit hz dX7_init_1 wm_1_26 wm_1_27 wm_1_28 (Nat.le_of_ble_eq_true rfl) (Nat.le_of_ble_eq_true rfl) ?_
    refine r_aload_n hz dX7_init_4 0 rfl ?_
    refine r_new cl6 hz dX7_init_5 wm_1_29 wm_1_30 wm_1_2 (Nat.le_of_ble_eq_true rfl) (Nat.le_of_ble_eq_true rfl) ?_
    refine r_nma (fun q1 => ?_)
    refine r_nmM (fun M2 => ?_)
    refine r_dup hz dX7_init_8 rfl ?_
    refine r_callIN (As := fun _ => []) (host := "DrawnBonds") hz (fun _ _ h => t_X6_init _ _ _ _ h) cal_X6_init rfl dX7_init_9 (List.mem_of_getElem? (i := 0) rfl) wm_1_32 rfl rfl (Nat.le_of_ble_eq_true rfl) ⟨(Nat.le_of_ble_eq_true rfl), (Nat.le_of_ble_eq_true rfl)⟩ ⟨(Nat.le_of_ble_eq_true rfl), (Nat.le_of_ble_eq_true rfl)⟩ (fun _ M3 => ?_)
    refine r_putR (j := 0) cl7 hz dX7_init_12 (by decide) wm_2_104 (Or.inl rfl) rfl rfl rfl ?_
    refine r_nmM (fun M4 => ?_)
    refine r_aload_n hz dX7_init_15 0 rfl ?_
    refine r_new cl5 hz dX7_init_16 wm_1_134 wm_1_135 wm_1_3 (Nat.le_of_ble_eq_true rfl) (Nat.le_of_ble_eq_true rfl) ?_
    refine r_nma (fun q5 => ?_)
    refine r_nmM (fun M6 => ?_)
    refine r_dup hz dX7_init_19 rfl ?_
    refine r_callIN (As := fun _ => []) (host := "DrawnBonds") hz (fun _ _ h => t_X5_init _ _ _ _ h) cal_X5_init rfl dX7_init_20 (List.mem_of_getElem? (i := 1) rfl) wm_1_137 rfl rfl (Nat.le_of_ble_eq_true rfl) ⟨(Nat.le_of_ble_eq_true rfl), (Nat.le_of_ble_eq_true rfl)⟩ ⟨(Nat.le_of_ble_eq_true rfl), (Nat.le_of_ble_eq_true rfl)⟩ (fun _ M7 => ?_)
    refine r_putR (j := 1) cl7 hz dX7_init_23 (by decide) wm_2_105 (Or.inr ⟨rfl, hin⟩) rfl rfl rfl ?_
    refine r_nmM (fun M8 => ?_)
    refine r_aload_n hz dX7_init_26 0 rfl ?_
    refine r_bipush (v := 12) hz dX7_init_27 rfl ?_
    refine r_newS (len := 12) hz dX7_init_29 wm_1_134 rfl (by decide) (Nat.le_of_ble_eq_true rfl) (Nat.le_of_ble_eq_true rfl) (Nat.le_of_ble_eq_true rfl) ?_
    refine r_nma (fun q9 => ?_)
    refine r_nmM (fun M10 => ?_)
    refine r_putR (j := 2) cl7 hz dX7_init_32 (by decide) wm_2_106 (Or.inr ⟨rfl, hin⟩) rfl rfl rfl ?_
    refine r_nmM (fun M11 => ?_)
    refine r_aload_n hz dX7_init_35 0 rfl ?_
    refine r_iconst (v := 0) hz dX7_init_36 rfl ?_
    refine r_putI (j := 3) cl7 hz dX7_init_37 (by decide) wm_2_107 (Or.inl rfl) rfl rfl rfl ?_
    refine r_nmM (fun M12 => ?_)
    refine r_aload_n hz dX7_init_40 0 rfl ?_
    refine r_iconst (v := 2) hz dX7_init_41 rfl ?_
    refine r_newS (len := 2) hz dX7_init_42 wm_1_134 rfl (by decide) (Nat.le_of_ble_eq_true rfl) (Nat.le_of_ble_eq_true rfl) (Nat.le_of_ble_eq_true rfl) ?_
    refine r_nma (fun q13 => ?_)
    refine r_nmM (fun M14 => ?_)
    refine r_putR (j := 4) cl7 hz dX7_init_45 (by decide) wm_2_108 (Or.inr ⟨rfl, hin⟩) rfl rfl rfl ?_
    refine r_nmM (fun M15 => ?_)
    refine r_aload_n hz dX7_init_48 0 rfl ?_
    refine r_iconst (v := 2) hz dX7_init_49 rfl ?_
    refine r_newZ (len := 2) hz dX7_init_50 wm_1_226 rfl (by decide) (Nat.le_of_ble_eq_true rfl) (Nat.le_of_ble_eq_true rfl) (Nat.le_of_ble_eq_true rfl) ?_
    refine r_nma (fun q16 => ?_)
    refine r_nmM (fun M17 => ?_)
    refine r_putR (j := 5) cl7 hz dX7_init_52 (by decide) wm_2_109 (Or.inr ⟨rfl, hin⟩) rfl rfl rfl ?_
    refine r_nmM (fun M18 => ?_)
    refine r_aload_n hz dX7_init_55 0 rfl ?_
    refine r_lconst (v := 1) hz dX7_init_56 rfl ?_
    refine r_putL (j := 6) cl7 hz dX7_init_57 (by decide) wm_2_110 (Or.inl rfl) rfl rfl rfl ?_
    refine r_nmM (fun M19 => ?_)
    refine r_aload_n hz dX7_init_60 0 rfl ?_
    refine r_new cl3 hz dX7_init_61 wm_1_189 wm_1_190 wm_1_4 (Nat.le_of_ble_eq_true rfl) (Nat.le_of_ble_eq_true rfl) ?_
    refine r_nma (fun q20 => ?_)
    refine r_nmM (fun M21 => ?_)
    refine r_dup hz dX7_init_64 rfl ?_
    refine r_callIN (As := fun _ => []) (host := "DrawnBonds") hz (fun _ _ h => t_X3_init _ _ _ _ h) cal_X3_init rfl dX7_init_65 (List.mem_of_getElem? (i := 2) rfl) wm_1_192 rfl rfl (Nat.le_of_ble_eq_true rfl) ⟨(Nat.le_of_ble_eq_true rfl), (Nat.le_of_ble_eq_true rfl)⟩ ⟨(Nat.le_of_ble_eq_true rfl), (Nat.le_of_ble_eq_true rfl)⟩ (fun _ M22 => ?_)
    refine r_putR (j := 7) cl7 hz dX7_init_68 (by decide) wm_2_111 (Or.inr ⟨rfl, hin⟩) rfl rfl rfl ?_
    refine r_nmM (fun M23 => ?_)
    refine r_aload_n hz dX7_init_71 0 rfl ?_
    refine r_new cl4 hz dX7_init_72 wm_1_227 wm_1_228 wm_1_5 (Nat.le_of_ble_eq_true rfl) (Nat.le_of_ble_eq_true rfl) ?_
    refine r_nma (fun q24 => ?_)
    refine r_nmM (fun M25 => ?_)
    refine r_dup hz dX7_init_75 rfl ?_
    refine r_callIN (As := fun _ => []) (host := "DrawnBonds") hz (fun _ _ h => t_X4_init _ _ _ _ h) cal_X4_init rfl dX7_init_76 (List.mem_of_getElem? (i := 4) rfl) wm_1_230 rfl rfl (Nat.le_of_ble_eq_true rfl) ⟨(Nat.le_of_ble_eq_true rfl), (Nat.le_of_ble_eq_true rfl)⟩ ⟨(Nat.le_of_ble_eq_true rfl), (Nat.le_of_ble_eq_true rfl)⟩ (fun _ M26 => ?_)
    refine r_putR (j := 8) cl7 hz dX7_init_79 (by decide) wm_2_112 (Or.inr ⟨rfl, hin⟩) rfl rfl rfl ?_
    refine r_nmM (fun M27 => ?_)
    refine r_aload_n hz dX7_init_82 0 rfl ?_
    refine r_new cl1 hz dX7_init_83 wm_2_57 wm_2_58 wm_1_6 (Nat.le_of_ble_eq_true rfl) (Nat.le_of_ble_eq_true rfl) ?_
    refine r_nma (fun q28 => ?_)
    refine r_nmM (fun M29 => ?_)
    refine r_dup hz dX7_init_86 rfl ?_
    refine r_callIN (As := fun _ => []) (host := "DrawnBonds") hz (fun _ _ h => t_X1_init _ _ _ _ h) cal_X1_init rfl dX7_init_87 (List.mem_of_getElem? (i := 5) rfl) wm_2_60 rfl rfl (Nat.le_of_ble_eq_true rfl) ⟨(Nat.le_of_ble_eq_true rfl), (Nat.le_of_ble_eq_true rfl)⟩ ⟨(Nat.le_of_ble_eq_true rfl), (Nat.le_of_ble_eq_true rfl)⟩ (fun _ M30 => ?_)
    refine r_putR (j := 9) cl7 hz dX7_init_90 (by decide) wm_2_113 (Or.inr ⟨rfl, hin⟩) rfl rfl rfl ?_
    refine r_nmM (fun M31 => ?_)
    refine r_aload_n hz dX7_init_93 0 rfl ?_
    refine r_new cl0 hz dX7_init_94 wm_2_74 wm_2_75 wm_1_7 (Nat.le_of_ble_eq_true rfl) (Nat.le_of_ble_eq_true rfl) ?_
    refine r_nma (fun q32 => ?_)
    refine r_nmM (fun M33 => ?_)
    refine r_dup hz dX7_init_97 rfl ?_
    refine r_callIN (As := fun _ => []) (host := "DrawnBonds") hz (fun _ _ h => t_X0_init _ _ _ _ h) cal_X0_init rfl dX7_init_98 (List.mem_of_getElem? (i := 6) rfl) wm_2_77 rfl rfl (Nat.le_of_ble_eq_true rfl) ⟨(Nat.le_of_ble_eq_true rfl), (Nat.le_of_ble_eq_true rfl)⟩ ⟨(Nat.le_of_ble_eq_true rfl), (Nat.le_of_ble_eq_true rfl)⟩ (fun _ M34 => ?_)
    refine r_putR (j := 10) cl7 hz dX7_init_101 (by decide) wm_2_114 (Or.inr ⟨rfl, hin⟩) rfl rfl rfl ?_
    refine r_nmM (fun M35 => ?_)
    refine r_aload_n hz dX7_init_104 0 rfl ?_
    refine r_new cl2 hz dX7_init_105 wm_2_89 wm_2_90 wm_1_8 (Nat.le_of_ble_eq_true rfl) (Nat.le_of_ble_eq_true rfl) ?_
    refine r_nma (fun q36 => ?_)
    refine r_nmM (fun M37 => ?_)
    refine r_dup hz dX7_init_108 rfl ?_
    refine r_callIN (As := fun _ => []) (host := "DrawnBonds") hz (fun _ _ h => t_X2_init _ _ _ _ h) cal_X2_init rfl dX7_init_109 (List.mem_of_getElem? (i := 7) rfl) wm_2_92 rfl rfl (Nat.le_of_ble_eq_true rfl) ⟨(Nat.le_of_ble_eq_true rfl), (Nat.le_of_ble_eq_true rfl)⟩ ⟨(Nat.le_of_ble_eq_true rfl), (Nat.le_of_ble_eq_true rfl)⟩ (fun _ M38 => ?_)
    refine r_putR (j := 11) cl7 hz dX7_init_112 (by decide) wm_2_115 (Or.inr ⟨rfl, hin⟩) rfl rfl rfl ?_
    refine r_nmM (fun M39 => ?_)
    exact r_vret hz hq dX7_init_115 (Nat.le_of_ble_eq_true rfl) (Nat.le_of_ble_eq_true rfl)
  exact key x M' h ⟨rfl, rfl⟩
theorem dX7_feed_0 : decode cX7_feed 0 = .ok (.aload_n 0, 1) := by decide +kernel
theorem dX7_feed_1 : decode cX7_feed 1 = .ok (.getfield 45, 3) := by decide +kernel
theorem dX7_feed_4 : decode cX7_feed 4 = .ok (.getfield 77, 3) := by decide +kernel
theorem dX7_feed_7 : decode cX7_feed 7 = .ok (.bipush 20, 2) := by decide +kernel
theorem dX7_feed_9 : decode cX7_feed 9 = .ok (.iadd, 1) := by decide +kernel
theorem dX7_feed_10 : decode cX7_feed 10 = .ok (.sipush 700, 3) := by decide +kernel
theorem dX7_feed_13 : decode cX7_feed 13 = .ok (.if_icmp .le 5, 3) := by decide +kernel
theorem dX7_feed_16 : decode cX7_feed 16 = .ok (.iconst (-1), 1) := by decide +kernel
theorem dX7_feed_17 : decode cX7_feed 17 = .ok (.ireturn, 1) := by decide +kernel
theorem dX7_feed_18 : decode cX7_feed 18 = .ok (.aload_n 0, 1) := by decide +kernel
theorem dX7_feed_19 : decode cX7_feed 19 = .ok (.getfield 45, 3) := by decide +kernel
theorem dX7_feed_22 : decode cX7_feed 22 = .ok (.iload_n 1, 1) := by decide +kernel
theorem dX7_feed_23 : decode cX7_feed 23 = .ok (.invokevirtual 80, 3) := by decide +kernel
theorem dX7_feed_26 : decode cX7_feed 26 = .ok (.aload_n 0, 1) := by decide +kernel
theorem dX7_feed_27 : decode cX7_feed 27 = .ok (.getfield 45, 3) := by decide +kernel
theorem dX7_feed_30 : decode cX7_feed 30 = .ok (.iload_n 2, 1) := by decide +kernel
theorem dX7_feed_31 : decode cX7_feed 31 = .ok (.invokevirtual 80, 3) := by decide +kernel
theorem dX7_feed_34 : decode cX7_feed 34 = .ok (.aload_n 0, 1) := by decide +kernel
theorem dX7_feed_35 : decode cX7_feed 35 = .ok (.getfield 45, 3) := by decide +kernel
theorem dX7_feed_38 : decode cX7_feed 38 = .ok (.iload_n 3, 1) := by decide +kernel
theorem dX7_feed_39 : decode cX7_feed 39 = .ok (.invokevirtual 80, 3) := by decide +kernel
theorem dX7_feed_42 : decode cX7_feed 42 = .ok (.aload_n 0, 1) := by decide +kernel
theorem dX7_feed_43 : decode cX7_feed 43 = .ok (.getfield 45, 3) := by decide +kernel
theorem dX7_feed_46 : decode cX7_feed 46 = .ok (.iload 4, 2) := by decide +kernel
theorem dX7_feed_48 : decode cX7_feed 48 = .ok (.invokevirtual 80, 3) := by decide +kernel
theorem dX7_feed_51 : decode cX7_feed 51 = .ok (.aload_n 0, 1) := by decide +kernel
theorem dX7_feed_52 : decode cX7_feed 52 = .ok (.getfield 45, 3) := by decide +kernel
theorem dX7_feed_55 : decode cX7_feed 55 = .ok (.iload 5, 2) := by decide +kernel
theorem dX7_feed_57 : decode cX7_feed 57 = .ok (.invokevirtual 80, 3) := by decide +kernel
theorem dX7_feed_60 : decode cX7_feed 60 = .ok (.aload_n 0, 1) := by decide +kernel
theorem dX7_feed_61 : decode cX7_feed 61 = .ok (.getfield 45, 3) := by decide +kernel
theorem dX7_feed_64 : decode cX7_feed 64 = .ok (.getfield 77, 3) := by decide +kernel
theorem dX7_feed_67 : decode cX7_feed 67 = .ok (.ireturn, 1) := by decide +kernel
abbrev rX7_feed : Room := { frames := 1, cells := 0, slots := 0, locals := 22 }
theorem cal_X7_feed : CalOk yX7_feed cX7_feed 6 (some .int) 5 := ⟨wm_2_144, wm_1_1, by decide, by decide, by decide +kernel⟩
def f_X7_feed (p0 : Nat) (p1 : Int32) (p2 : Int32) (p3 : Int32) (p4 : Int32) (p5 : Int32) (M : Mm) : Option (Int32 × Mm) :=
  ck (gK M p0 = 7) (bR (gR M p0 7) fun q1 => ck (gK M q1 = 3) ((if ((gI M q1 1) + (20 : Int32)) ≤ (700 : Int32) then
    ck (gK M p0 = 7) (bR (gR M p0 7) fun q2 => ck (gK M q2 = 3) (bd (f_X3_feedFour q2 p1 M) fun _ M3 =>
    ck (gK M3 p0 = 7) (bR (gR M3 p0 7) fun q4 => ck (gK M3 q4 = 3) (bd (f_X3_feedFour q4 p2 M3) fun _ M5 =>
    ck (gK M5 p0 = 7) (bR (gR M5 p0 7) fun q6 => ck (gK M5 q6 = 3) (bd (f_X3_feedFour q6 p3 M5) fun _ M7 =>
    ck (gK M7 p0 = 7) (bR (gR M7 p0 7) fun q8 => ck (gK M7 q8 = 3) (bd (f_X3_feedFour q8 p4 M7) fun _ M9 =>
    ck (gK M9 p0 = 7) (bR (gR M9 p0 7) fun q10 => ck (gK M9 q10 = 3) (bd (f_X3_feedFour q10 p5 M9) fun _ M11 =>
    ck (gK M11 p0 = 7) (bR (gR M11 p0 7) fun q12 => ck (gK M11 q12 = 3) (some ((gI M11 q12 1), M11)))))))))))))
  else
    some ((-1 : Int32), M))))
set_option maxRecDepth 20000 in
set_option maxHeartbeats 4000000 in
theorem t_X7_feed (p0 : Nat) (p1 : Int32) (p2 : Int32) (p3 : Int32) (p4 : Int32) (p5 : Int32) (M : Mm) (x : Int32) (M' : Mm) (h : f_X7_feed p0 p1 p2 p3 p4 p5 M = some (x, M')) : Ctr yX7_feed cX7_feed 6 (some .int) rX7_feed (fun _ => [.ref p0, .int p1, .int p2, .int p3, .int p4, .int p5]) M (zI x) M' := by
  refine ctr_of (plainFor_of_name (by decide)) (fun _ => Nat.le_of_ble_eq_true rfl) (fun z hz hin hq => ?_)
  have key : Sim z 0 [(0, .ref p0), (1, .int p1), (2, .int p2), (3, .int p3), (4, .int p4), (5, .int p5)] [] M 0 0 (f_X7_feed p0 p1 p2 p3 p4 p5 M) (fun a b => a = x ∧ b = M') := by
    have hq : Ret z zI (fun a b => a = x ∧ b = M') := fun a b e => by rw [e.1, e.2]; exact hq
    unfold f_X7_feed
    refine r_aload_n hz dX7_feed_0 0 rfl ?_
    refine r_getR (j := 7) cl7 hz dX7_feed_1 (by decide) wm_2_111 rfl (fun q1 => ?_)
    refine r_getI (j := 1) cl3 hz dX7_feed_4 (by decide) wm_1_199 rfl ?_
    refine r_bipush (v := 20) hz dX7_feed_7 rfl ?_
    refine r_iadd hz dX7_feed_9 ?_
    refine r_sipush (v := 700) hz dX7_feed_10 rfl ?_
    refine r_icmp_le (tgt := 18) hz dX7_feed_13 rfl ?_ ?_
    · refine r_aload_n hz dX7_feed_18 0 rfl ?_
      refine r_getR (j := 7) cl7 hz dX7_feed_19 (by decide) wm_2_111 rfl (fun q2 => ?_)
      refine r_iload_n hz dX7_feed_22 1 rfl ?_
      refine r_callVv (As := fun _ => [.int p1]) cl3 hz (fun _ _ h => t_X3_feedFour _ _ _ _ _ h) cal_X3_feedFour dX7_feed_23 wm_2_145 wm_2_146 wm_2_147 rfl rfl (Nat.le_of_ble_eq_true rfl) ⟨(Nat.le_of_ble_eq_true rfl), (Nat.le_of_ble_eq_true rfl)⟩ ⟨(Nat.le_of_ble_eq_true rfl), (Nat.le_of_ble_eq_true rfl)⟩ (fun _ M3 => ?_)
      refine r_aload_n hz dX7_feed_26 0 rfl ?_
      refine r_getR (j := 7) cl7 hz dX7_feed_27 (by decide) wm_2_111 rfl (fun q4 => ?_)
      refine r_iload_n hz dX7_feed_30 2 rfl ?_
      refine r_callVv (As := fun _ => [.int p2]) cl3 hz (fun _ _ h => t_X3_feedFour _ _ _ _ _ h) cal_X3_feedFour dX7_feed_31 wm_2_145 wm_2_146 wm_2_147 rfl rfl (Nat.le_of_ble_eq_true rfl) ⟨(Nat.le_of_ble_eq_true rfl), (Nat.le_of_ble_eq_true rfl)⟩ ⟨(Nat.le_of_ble_eq_true rfl), (Nat.le_of_ble_eq_true rfl)⟩ (fun _ M5 => ?_)
      refine r_aload_n hz dX7_feed_34 0 rfl ?_
      refine r_getR (j := 7) cl7 hz dX7_feed_35 (by decide) wm_2_111 rfl (fun q6 => ?_)
      refine r_iload_n hz dX7_feed_38 3 rfl ?_
      refine r_callVv (As := fun _ => [.int p3]) cl3 hz (fun _ _ h => t_X3_feedFour _ _ _ _ _ h) cal_X3_feedFour dX7_feed_39 wm_2_145 wm_2_146 wm_2_147 rfl rfl (Nat.le_of_ble_eq_true rfl) ⟨(Nat.le_of_ble_eq_true rfl), (Nat.le_of_ble_eq_true rfl)⟩ ⟨(Nat.le_of_ble_eq_true rfl), (Nat.le_of_ble_eq_true rfl)⟩ (fun _ M7 => ?_)
      refine r_aload_n hz dX7_feed_42 0 rfl ?_
      refine r_getR (j := 7) cl7 hz dX7_feed_43 (by decide) wm_2_111 rfl (fun q8 => ?_)
      refine r_iload hz dX7_feed_46 4 rfl ?_
      refine r_callVv (As := fun _ => [.int p4]) cl3 hz (fun _ _ h => t_X3_feedFour _ _ _ _ _ h) cal_X3_feedFour dX7_feed_48 wm_2_145 wm_2_146 wm_2_147 rfl rfl (Nat.le_of_ble_eq_true rfl) ⟨(Nat.le_of_ble_eq_true rfl), (Nat.le_of_ble_eq_true rfl)⟩ ⟨(Nat.le_of_ble_eq_true rfl), (Nat.le_of_ble_eq_true rfl)⟩ (fun _ M9 => ?_)
      refine r_aload_n hz dX7_feed_51 0 rfl ?_
      refine r_getR (j := 7) cl7 hz dX7_feed_52 (by decide) wm_2_111 rfl (fun q10 => ?_)
      refine r_iload hz dX7_feed_55 5 rfl ?_
      refine r_callVv (As := fun _ => [.int p5]) cl3 hz (fun _ _ h => t_X3_feedFour _ _ _ _ _ h) cal_X3_feedFour dX7_feed_57 wm_2_145 wm_2_146 wm_2_147 rfl rfl (Nat.le_of_ble_eq_true rfl) ⟨(Nat.le_of_ble_eq_true rfl), (Nat.le_of_ble_eq_true rfl)⟩ ⟨(Nat.le_of_ble_eq_true rfl), (Nat.le_of_ble_eq_true rfl)⟩ (fun _ M11 => ?_)
      refine r_aload_n hz dX7_feed_60 0 rfl ?_
      refine r_getR (j := 7) cl7 hz dX7_feed_61 (by decide) wm_2_111 rfl (fun q12 => ?_)
      refine r_getI (j := 1) cl3 hz dX7_feed_64 (by decide) wm_1_199 rfl ?_
      exact r_iret hz hq dX7_feed_67 (Nat.le_of_ble_eq_true rfl) (Nat.le_of_ble_eq_true rfl)
    · refine r_iconst (v := -1) hz dX7_feed_16 rfl ?_
      exact r_iret hz hq dX7_feed_17 (Nat.le_of_ble_eq_true rfl) (Nat.le_of_ble_eq_true rfl)
  exact key x M' h ⟨rfl, rfl⟩
theorem dX7_text_0 : decode cX7_text 0 = .ok (.iload_n 1, 1) := by decide +kernel
theorem dX7_text_1 : decode cX7_text 1 = .ok (.ifCond .lt 14, 3) := by decide +kernel
theorem dX7_text_4 : decode cX7_text 4 = .ok (.iload_n 1, 1) := by decide +kernel
theorem dX7_text_5 : decode cX7_text 5 = .ok (.aload_n 0, 1) := by decide +kernel
theorem dX7_text_6 : decode cX7_text 6 = .ok (.getfield 45, 3) := by decide +kernel
theorem dX7_text_9 : decode cX7_text 9 = .ok (.getfield 77, 3) := by decide +kernel
theorem dX7_text_12 : decode cX7_text 12 = .ok (.if_icmp .le 5, 3) := by decide +kernel
theorem dX7_text_15 : decode cX7_text 15 = .ok (.iconst (-1), 1) := by decide +kernel
theorem dX7_text_16 : decode cX7_text 16 = .ok (.ireturn, 1) := by decide +kernel
theorem dX7_text_17 : decode cX7_text 17 = .ok (.aload_n 0, 1) := by decide +kernel
theorem dX7_text_18 : decode cX7_text 18 = .ok (.getfield 45, 3) := by decide +kernel
theorem dX7_text_21 : decode cX7_text 21 = .ok (.iload_n 1, 1) := by decide +kernel
theorem dX7_text_22 : decode cX7_text 22 = .ok (.invokevirtual 84, 3) := by decide +kernel
theorem dX7_text_25 : decode cX7_text 25 = .ok (.istore_n 2, 1) := by decide +kernel
theorem dX7_text_26 : decode cX7_text 26 = .ok (.iload_n 2, 1) := by decide +kernel
theorem dX7_text_27 : decode cX7_text 27 = .ok (.ifCond .ge 5, 3) := by decide +kernel
theorem dX7_text_30 : decode cX7_text 30 = .ok (.iload_n 2, 1) := by decide +kernel
theorem dX7_text_31 : decode cX7_text 31 = .ok (.ireturn, 1) := by decide +kernel
theorem dX7_text_32 : decode cX7_text 32 = .ok (.aload_n 0, 1) := by decide +kernel
theorem dX7_text_33 : decode cX7_text 33 = .ok (.aload_n 0, 1) := by decide +kernel
theorem dX7_text_34 : decode cX7_text 34 = .ok (.getfield 45, 3) := by decide +kernel
theorem dX7_text_37 : decode cX7_text 37 = .ok (.aload_n 0, 1) := by decide +kernel
theorem dX7_text_38 : decode cX7_text 38 = .ok (.getfield 10, 3) := by decide +kernel
theorem dX7_text_41 : decode cX7_text 41 = .ok (.invokevirtual 88, 3) := by decide +kernel
theorem dX7_text_44 : decode cX7_text 44 = .ok (.putfield 10, 3) := by decide +kernel
theorem dX7_text_47 : decode cX7_text 47 = .ok (.aload_n 0, 1) := by decide +kernel
theorem dX7_text_48 : decode cX7_text 48 = .ok (.getfield 19, 3) := by decide +kernel
theorem dX7_text_51 : decode cX7_text 51 = .ok (.aload_n 0, 1) := by decide +kernel
theorem dX7_text_52 : decode cX7_text 52 = .ok (.getfield 10, 3) := by decide +kernel
theorem dX7_text_55 : decode cX7_text 55 = .ok (.invokevirtual 92, 3) := by decide +kernel
theorem dX7_text_58 : decode cX7_text 58 = .ok (.aload_n 0, 1) := by decide +kernel
theorem dX7_text_59 : decode cX7_text 59 = .ok (.iconst 0, 1) := by decide +kernel
theorem dX7_text_60 : decode cX7_text 60 = .ok (.putfield 27, 3) := by decide +kernel
theorem dX7_text_63 : decode cX7_text 63 = .ok (.iconst 0, 1) := by decide +kernel
theorem dX7_text_64 : decode cX7_text 64 = .ok (.istore_n 3, 1) := by decide +kernel
theorem dX7_text_65 : decode cX7_text 65 = .ok (.iload_n 3, 1) := by decide +kernel
theorem dX7_text_66 : decode cX7_text 66 = .ok (.iconst 2, 1) := by decide +kernel
theorem dX7_text_67 : decode cX7_text 67 = .ok (.if_icmp .ge 16, 3) := by decide +kernel
theorem dX7_text_70 : decode cX7_text 70 = .ok (.aload_n 0, 1) := by decide +kernel
theorem dX7_text_71 : decode cX7_text 71 = .ok (.getfield 34, 3) := by decide +kernel
theorem dX7_text_74 : decode cX7_text 74 = .ok (.iload_n 3, 1) := by decide +kernel
theorem dX7_text_75 : decode cX7_text 75 = .ok (.iconst 0, 1) := by decide +kernel
theorem dX7_text_76 : decode cX7_text 76 = .ok (.bastore, 1) := by decide +kernel
theorem dX7_text_77 : decode cX7_text 77 = .ok (.iinc 3 1, 3) := by decide +kernel
theorem dX7_text_80 : decode cX7_text 80 = .ok (.goto (-15), 3) := by decide +kernel
theorem dX7_text_83 : decode cX7_text 83 = .ok (.iload_n 2, 1) := by decide +kernel
theorem dX7_text_84 : decode cX7_text 84 = .ok (.ireturn, 1) := by decide +kernel
abbrev rX7_text : Room := { frames := 12, cells := 0, slots := 0, locals := 280 }
theorem cal_X7_text : CalOk yX7_text cX7_text 4 (some .int) 1 := ⟨wm_2_152, wm_1_1, by decide, by decide, by decide +kernel⟩
def f_X7_text_65 : Nat → Nat → Int32 → Int32 → Mm → Option (Int32 × Mm)
  | 0, _, _, _, _ => none
  | n + 1, x0, x2, x3, M =>
    (if (2 : Int32) ≤ x3 then
      some (x2, M)
    else
      ck (gK M x0 = 7) (bR (gR M x0 5) fun q1 => ck (gK M q1 = 11 ∧ inb x3 (gN M q1)) (nm (sI M q1 (x3).toNatClampNeg (vp_nar .boolean (0 : Int32))) fun M2 =>
      f_X7_text_65 n x0 x2 (x3 + (1 : Int32)) M2)))
set_option maxRecDepth 20000 in
set_option maxHeartbeats 4000000 in
theorem s_X7_text_65 {z : Zt} {K : Int32 → Mm → Prop} (hz : Good z RX7 cX7_text 4 rX7_text (some .int)) (hq : Ret z zI K) : ∀ (n : Nat) (x0 : Nat) (x2 : Int32) (x3 : Int32) (M : Mm), Sim z 65 [(0, .ref x0), (2, .int x2), (3, .int x3)] [] M 0 0 (f_X7_text_65 n x0 x2 x3 M) K := by
  intro n
  induction n with
  | zero => exact fun _ _ _ _ => r_none
  | succ n ih =>
    intro x0 x2 x3 M
    unfold f_X7_text_65
    refine r_iload_n hz dX7_text_65 2 rfl ?_
    refine r_iconst (v := 2) hz dX7_text_66 rfl ?_
    refine r_icmp_ge (tgt := 83) hz dX7_text_67 rfl ?_ ?_
    · refine r_iload_n hz dX7_text_83 1 rfl ?_
      exact r_iret hz hq dX7_text_84 (Nat.le_of_ble_eq_true rfl) (Nat.le_of_ble_eq_true rfl)
    · refine r_aload_n hz dX7_text_70 0 rfl ?_
      refine r_getR (j := 5) cl7 hz dX7_text_71 (by decide) wm_2_109 rfl (fun q1 => ?_)
      refine r_iload_n hz dX7_text_74 2 rfl ?_
      refine r_iconst (v := 0) hz dX7_text_75 rfl ?_
      refine r_zast hz dX7_text_76 ?_
      refine r_nmM (fun M2 => ?_)
      refine r_iinc (v := (x3 + (1 : Int32))) (lv' := [(3, .int (x3 + (1 : Int32))), (0, .ref x0), (2, .int x2)]) hz dX7_text_77 2 rfl rfl (by decide) rfl ?_
      refine r_goto (tgt := 65) hz dX7_text_80 rfl ?_
      refine r_sub [1, 2, 0] rfl ?_
      exact ih x0 x2 (x3 + (1 : Int32)) M2
def f_X7_text (p0 : Nat) (p1 : Int32) (M : Mm) : Option (Int32 × Mm) :=
  (if p1 < 0 then
    some ((-1 : Int32), M)
  else
    ck (gK M p0 = 7) (bR (gR M p0 7) fun q1 => ck (gK M q1 = 3) ((if p1 ≤ (gI M q1 1) then
      ck (gK M p0 = 7) (bR (gR M p0 7) fun q2 => ck (gK M q2 = 3) (bd (f_X3_read q2 p1 M) fun v4 M3 =>
      (if 0 ≤ v4 then
        ck (gK M3 p0 = 7) (bR (gR M3 p0 7) fun q5 => ck (gK M3 p0 = 7) (bR (gR M3 p0 0) fun q6 => ck (gK M3 q5 = 3) (bd (f_X3_exchange q5 q6 M3) fun v8 M7 =>
        ck (gK M7 p0 = 7) (nm (sR M7 p0 0 (some v8)) fun M9 =>
        ck (gK M9 p0 = 7) (bR (gR M9 p0 1) fun q10 => ck (gK M9 p0 = 7) (bR (gR M9 p0 0) fun q11 => ck (gK M9 q10 = 5) (bd (f_X5_begin q10 q11 M9) fun _ M12 =>
        ck (gK M12 p0 = 7) (nm (sI M12 p0 3 (0 : Int32)) fun M13 =>
        f_X7_text_65 FU p0 v4 (0 : Int32) M13))))))))
      else
        some (v4, M3))))
    else
      some ((-1 : Int32), M)))))
set_option maxRecDepth 20000 in
set_option maxHeartbeats 4000000 in
theorem t_X7_text (p0 : Nat) (p1 : Int32) (M : Mm) (x : Int32) (M' : Mm) (h : f_X7_text p0 p1 M = some (x, M')) : Ctr yX7_text cX7_text 4 (some .int) rX7_text (fun _ => [.ref p0, .int p1]) M (zI x) M' := by
  refine ctr_of (plainFor_of_name (by decide)) (fun _ => Nat.le_of_ble_eq_true rfl) (fun z hz hin hq => ?_)
  have key : Sim z 0 [(0, .ref p0), (1, .int p1)] [] M 0 0 (f_X7_text p0 p1 M) (fun a b => a = x ∧ b = M') := by
    have hq : Ret z zI (fun a b => a = x ∧ b = M') := fun a b e => by rw [e.1, e.2]; exact hq
    unfold f_X7_text
    refine r_iload_n hz dX7_text_0 1 rfl ?_
    refine r_if_lt (tgt := 15) hz dX7_text_1 rfl ?_ ?_
    · refine r_iconst (v := -1) hz dX7_text_15 rfl ?_
      exact r_iret hz hq dX7_text_16 (Nat.le_of_ble_eq_true rfl) (Nat.le_of_ble_eq_true rfl)
    · refine r_iload_n hz dX7_text_4 1 rfl ?_
      refine r_aload_n hz dX7_text_5 0 rfl ?_
      refine r_getR (j := 7) cl7 hz dX7_text_6 (by decide) wm_2_111 rfl (fun q1 => ?_)
      refine r_getI (j := 1) cl3 hz dX7_text_9 (by decide) wm_1_199 rfl ?_
      refine r_icmp_le (tgt := 17) hz dX7_text_12 rfl ?_ ?_
      · refine r_aload_n hz dX7_text_17 0 rfl ?_
        refine r_getR (j := 7) cl7 hz dX7_text_18 (by decide) wm_2_111 rfl (fun q2 => ?_)
        refine r_iload_n hz dX7_text_21 1 rfl ?_
        refine r_callVi (As := fun _ => [.int p1]) cl3 hz (fun _ _ h => t_X3_read _ _ _ _ _ h) cal_X3_read dX7_text_22 wm_2_153 wm_2_154 wm_2_155 rfl rfl (Nat.le_of_ble_eq_true rfl) ⟨(Nat.le_of_ble_eq_true rfl), (Nat.le_of_ble_eq_true rfl)⟩ ⟨(Nat.le_of_ble_eq_true rfl), (Nat.le_of_ble_eq_true rfl)⟩ (fun v4 M3 => ?_)
        refine r_istore_n (lv' := [(2, .int v4), (0, .ref p0), (1, .int p1)]) hz dX7_text_25 (by decide) rfl ?_
        refine r_iload_n hz dX7_text_26 0 rfl ?_
        refine r_if_ge (tgt := 32) hz dX7_text_27 rfl ?_ ?_
        · refine r_aload_n hz dX7_text_32 1 rfl ?_
          refine r_aload_n hz dX7_text_33 1 rfl ?_
          refine r_getR (j := 7) cl7 hz dX7_text_34 (by decide) wm_2_111 rfl (fun q5 => ?_)
          refine r_aload_n hz dX7_text_37 1 rfl ?_
          refine r_getR (j := 0) cl7 hz dX7_text_38 (by decide) wm_2_104 rfl (fun q6 => ?_)
          refine r_callVa (As := fun _ => [.ref q6]) cl3 hz (fun _ _ h => t_X3_exchange _ _ _ _ _ h) cal_X3_exchange dX7_text_41 wm_3_102 wm_3_103 wm_3_104 rfl rfl (Nat.le_of_ble_eq_true rfl) ⟨(Nat.le_of_ble_eq_true rfl), (Nat.le_of_ble_eq_true rfl)⟩ ⟨(Nat.le_of_ble_eq_true rfl), (Nat.le_of_ble_eq_true rfl)⟩ (fun v8 M7 => ?_)
          refine r_putR (j := 0) cl7 hz dX7_text_44 (by decide) wm_2_104 (Or.inl rfl) rfl rfl rfl ?_
          refine r_nmM (fun M9 => ?_)
          refine r_aload_n hz dX7_text_47 1 rfl ?_
          refine r_getR (j := 1) cl7 hz dX7_text_48 (by decide) wm_2_105 rfl (fun q10 => ?_)
          refine r_aload_n hz dX7_text_51 1 rfl ?_
          refine r_getR (j := 0) cl7 hz dX7_text_52 (by decide) wm_2_104 rfl (fun q11 => ?_)
          refine r_callVv (As := fun _ => [.ref q11]) cl5 hz (fun _ _ h => t_X5_begin _ _ _ _ _ h) cal_X5_begin dX7_text_55 wm_3_106 wm_3_107 wm_3_108 rfl rfl (Nat.le_of_ble_eq_true rfl) ⟨(Nat.le_of_ble_eq_true rfl), (Nat.le_of_ble_eq_true rfl)⟩ ⟨(Nat.le_of_ble_eq_true rfl), (Nat.le_of_ble_eq_true rfl)⟩ (fun _ M12 => ?_)
          refine r_aload_n hz dX7_text_58 1 rfl ?_
          refine r_iconst (v := 0) hz dX7_text_59 rfl ?_
          refine r_putI (j := 3) cl7 hz dX7_text_60 (by decide) wm_2_107 (Or.inl rfl) rfl rfl rfl ?_
          refine r_nmM (fun M13 => ?_)
          refine r_iconst (v := 0) hz dX7_text_63 rfl ?_
          refine r_istore_n (lv' := [(3, .int (0 : Int32)), (2, .int v4), (0, .ref p0), (1, .int p1)]) hz dX7_text_64 (by decide) rfl ?_
          refine r_sub [2, 1, 0] rfl ?_
          exact s_X7_text_65 hz hq FU p0 v4 (0 : Int32) M13
        · refine r_iload_n hz dX7_text_30 0 rfl ?_
          exact r_iret hz hq dX7_text_31 (Nat.le_of_ble_eq_true rfl) (Nat.le_of_ble_eq_true rfl)
      · refine r_iconst (v := -1) hz dX7_text_15 rfl ?_
        exact r_iret hz hq dX7_text_16 (Nat.le_of_ble_eq_true rfl) (Nat.le_of_ble_eq_true rfl)
  exact key x M' h ⟨rfl, rfl⟩
