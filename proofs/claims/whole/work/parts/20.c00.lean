theorem dX0_init_0 : decode cX0_init 0 = .ok (.aload_n 0, 1) := by decide +kernel
theorem dX0_init_1 : decode cX0_init 1 = .ok (.invokespecial 3, 3) := by decide +kernel
theorem dX0_init_4 : decode cX0_init 4 = .ok (.aload_n 0, 1) := by decide +kernel
theorem dX0_init_5 : decode cX0_init 5 = .ok (.lconst 0, 1) := by decide +kernel
theorem dX0_init_6 : decode cX0_init 6 = .ok (.putfield 9, 3) := by decide +kernel
theorem dX0_init_9 : decode cX0_init 9 = .ok (.aload_n 0, 1) := by decide +kernel
theorem dX0_init_10 : decode cX0_init 10 = .ok (.lconst 1, 1) := by decide +kernel
theorem dX0_init_11 : decode cX0_init 11 = .ok (.putfield 15, 3) := by decide +kernel
theorem dX0_init_14 : decode cX0_init 14 = .ok (.return_, 1) := by decide +kernel
abbrev rX0_init : Room := { frames := 1, cells := 0, slots := 0, locals := 20 }
theorem cal_X0_init : CalOk yX0_init cX0_init 1 none 0 := ⟨wm_2_78, wm_1_7, by decide, by decide, by decide +kernel⟩
def f_X0_init (p0 : Nat) (M : Mm) : Option (Unit × Mm) :=
  ck (gK M p0 = 0) (nm (sL M p0 0 (0 : Int64)) fun M1 =>
  ck (gK M1 p0 = 0) (nm (sL M1 p0 1 (1 : Int64)) fun M2 =>
  some ((), M2)))
set_option maxRecDepth 20000 in
set_option maxHeartbeats 4000000 in
theorem t_X0_init (p0 : Nat) (M : Mm) (x : Unit) (M' : Mm) (h : f_X0_init p0 M = some (x, M')) : Ctr yX0_init cX0_init 1 none rX0_init (fun _ => [.ref p0]) M (zU x) M' := by
  refine ctr_of (plainFor_of_name (by decide)) (fun _ => Nat.le_of_ble_eq_true rfl) (fun z hz hin hq => ?_)
  have key : Sim z 0 [(0, .ref p0)] [] M 0 0 (f_X0_init p0 M) (fun a b => a = x ∧ b = M') := by
    have hq : Ret z zU (fun a b => a = x ∧ b = M') := fun a b e => by rw [e.1, e.2]; exact hq
    have hin := hin rfl
    unfold f_X0_init
    refine r_aload_n hz dX0_init_0 0 rfl ?_
    refine r_objInit hz dX0_init_1 wm_2_79 wm_1_27 wm_1_28 (Nat.le_of_ble_eq_true rfl) (Nat.le_of_ble_eq_true rfl) ?_
    refine r_aload_n hz dX0_init_4 0 rfl ?_
    refine r_lconst (v := 0) hz dX0_init_5 rfl ?_
    refine r_putL (j := 0) cl0 hz dX0_init_6 (by decide) wm_2_80 (Or.inl rfl) rfl rfl rfl ?_
    refine r_nmM (fun M1 => ?_)
    refine r_aload_n hz dX0_init_9 0 rfl ?_
    refine r_lconst (v := 1) hz dX0_init_10 rfl ?_
    refine r_putL (j := 1) cl0 hz dX0_init_11 (by decide) wm_2_82 (Or.inl rfl) rfl rfl rfl ?_
    refine r_nmM (fun M2 => ?_)
    exact r_vret hz hq dX0_init_14 (Nat.le_of_ble_eq_true rfl) (Nat.le_of_ble_eq_true rfl)
  exact key x M' h ⟨rfl, rfl⟩
theorem dX7_commonDivisor_0 : decode cX7_commonDivisor 0 = .ok (.lload_n 0, 1) := by decide +kernel
theorem dX7_commonDivisor_1 : decode cX7_commonDivisor 1 = .ok (.lstore 4, 2) := by decide +kernel
theorem dX7_commonDivisor_3 : decode cX7_commonDivisor 3 = .ok (.lload_n 2, 1) := by decide +kernel
theorem dX7_commonDivisor_4 : decode cX7_commonDivisor 4 = .ok (.lstore 6, 2) := by decide +kernel
theorem dX7_commonDivisor_6 : decode cX7_commonDivisor 6 = .ok (.iconst 0, 1) := by decide +kernel
theorem dX7_commonDivisor_7 : decode cX7_commonDivisor 7 = .ok (.istore 8, 2) := by decide +kernel
theorem dX7_commonDivisor_9 : decode cX7_commonDivisor 9 = .ok (.iload 8, 2) := by decide +kernel
theorem dX7_commonDivisor_11 : decode cX7_commonDivisor 11 = .ok (.sipush 200, 3) := by decide +kernel
theorem dX7_commonDivisor_14 : decode cX7_commonDivisor 14 = .ok (.if_icmp .ge 31, 3) := by decide +kernel
theorem dX7_commonDivisor_17 : decode cX7_commonDivisor 17 = .ok (.lload 6, 2) := by decide +kernel
theorem dX7_commonDivisor_19 : decode cX7_commonDivisor 19 = .ok (.lconst 0, 1) := by decide +kernel
theorem dX7_commonDivisor_20 : decode cX7_commonDivisor 20 = .ok (.lcmp, 1) := by decide +kernel
theorem dX7_commonDivisor_21 : decode cX7_commonDivisor 21 = .ok (.ifCond .eq 24, 3) := by decide +kernel
theorem dX7_commonDivisor_24 : decode cX7_commonDivisor 24 = .ok (.lload 4, 2) := by decide +kernel
theorem dX7_commonDivisor_26 : decode cX7_commonDivisor 26 = .ok (.lload 6, 2) := by decide +kernel
theorem dX7_commonDivisor_28 : decode cX7_commonDivisor 28 = .ok (.lrem, 1) := by decide +kernel
theorem dX7_commonDivisor_29 : decode cX7_commonDivisor 29 = .ok (.lstore 9, 2) := by decide +kernel
theorem dX7_commonDivisor_31 : decode cX7_commonDivisor 31 = .ok (.lload 6, 2) := by decide +kernel
theorem dX7_commonDivisor_33 : decode cX7_commonDivisor 33 = .ok (.lstore 4, 2) := by decide +kernel
theorem dX7_commonDivisor_35 : decode cX7_commonDivisor 35 = .ok (.lload 9, 2) := by decide +kernel
theorem dX7_commonDivisor_37 : decode cX7_commonDivisor 37 = .ok (.lstore 6, 2) := by decide +kernel
theorem dX7_commonDivisor_39 : decode cX7_commonDivisor 39 = .ok (.iinc 8 1, 3) := by decide +kernel
theorem dX7_commonDivisor_42 : decode cX7_commonDivisor 42 = .ok (.goto (-33), 3) := by decide +kernel
theorem dX7_commonDivisor_45 : decode cX7_commonDivisor 45 = .ok (.lload 4, 2) := by decide +kernel
theorem dX7_commonDivisor_47 : decode cX7_commonDivisor 47 = .ok (.lreturn, 1) := by decide +kernel
abbrev rX7_commonDivisor : Room := { frames := 0, cells := 0, slots := 0, locals := 0 }
theorem cal_X7_commonDivisor : CalOk yX7_commonDivisor cX7_commonDivisor 11 (some .long) 2 := ⟨wm_4_93, wm_1_1, by decide, by decide, by decide +kernel⟩
def f_X7_commonDivisor_9 : Nat → Int64 → Int64 → Int32 → Mm → Option (Int64 × Mm)
  | 0, _, _, _, _ => none
  | n + 1, x4, x6, x8, M =>
    (if (200 : Int32) ≤ x8 then
      some (x4, M)
    else
      (if x6 = (0 : Int64) then
        some (x4, M)
      else
        ck (¬ x6 = 0) (nm (x4 - x4 / x6 * x6) fun v1 =>
        f_X7_commonDivisor_9 n x6 v1 (x8 + (1 : Int32)) M)))
set_option maxRecDepth 20000 in
set_option maxHeartbeats 4000000 in
theorem s_X7_commonDivisor_9 {z : Zt} {K : Int64 → Mm → Prop} (hz : Good z RX7 cX7_commonDivisor 11 rX7_commonDivisor (some .long)) (hq : Ret z zL K) : ∀ (n : Nat) (x4 : Int64) (x6 : Int64) (x8 : Int32) (M : Mm), Sim z 9 [(4, .long x4), (6, .long x6), (8, .int x8)] [] M 0 0 (f_X7_commonDivisor_9 n x4 x6 x8 M) K := by
  intro n
  induction n with
  | zero => exact fun _ _ _ _ => r_none
  | succ n ih =>
    intro x4 x6 x8 M
    unfold f_X7_commonDivisor_9
    refine r_iload hz dX7_commonDivisor_9 2 rfl ?_
    refine r_sipush (v := 200) hz dX7_commonDivisor_11 rfl ?_
    refine r_icmp_ge (tgt := 45) hz dX7_commonDivisor_14 rfl ?_ ?_
    · refine r_lload hz dX7_commonDivisor_45 0 rfl ?_
      exact r_lret hz hq dX7_commonDivisor_47 (Nat.le_of_ble_eq_true rfl) (Nat.le_of_ble_eq_true rfl)
    · refine r_lload hz dX7_commonDivisor_17 1 rfl ?_
      refine r_lconst (v := 0) hz dX7_commonDivisor_19 rfl ?_
      refine r_lcmp_eq (tgt := 45) hz dX7_commonDivisor_20 dX7_commonDivisor_21 rfl ?_ ?_
      · refine r_lload hz dX7_commonDivisor_45 0 rfl ?_
        exact r_lret hz hq dX7_commonDivisor_47 (Nat.le_of_ble_eq_true rfl) (Nat.le_of_ble_eq_true rfl)
      · refine r_lload hz dX7_commonDivisor_24 0 rfl ?_
        refine r_lload hz dX7_commonDivisor_26 1 rfl ?_
        refine r_lrem hz dX7_commonDivisor_28 ?_
        refine r_nml (fun v1 => ?_)
        refine r_lstore (lv' := [(9, .long v1), (4, .long x4), (6, .long x6), (8, .int x8)]) hz dX7_commonDivisor_29 (by decide) rfl ?_
        refine r_lload hz dX7_commonDivisor_31 2 rfl ?_
        refine r_lstore (lv' := [(4, .long x6), (9, .long v1), (6, .long x6), (8, .int x8)]) hz dX7_commonDivisor_33 (by decide) rfl ?_
        refine r_lload hz dX7_commonDivisor_35 1 rfl ?_
        refine r_lstore (lv' := [(6, .long v1), (4, .long x6), (9, .long v1), (8, .int x8)]) hz dX7_commonDivisor_37 (by decide) rfl ?_
        refine r_iinc (v := (x8 + (1 : Int32))) (lv' := [(8, .int (x8 + (1 : Int32))), (6, .long v1), (4, .long x6), (9, .long v1)]) hz dX7_commonDivisor_39 3 rfl rfl (by decide) rfl ?_
        refine r_goto (tgt := 9) hz dX7_commonDivisor_42 rfl ?_
        refine r_sub [2, 1, 0] rfl ?_
        exact ih x6 v1 (x8 + (1 : Int32)) M
def f_X7_commonDivisor (p0 : Int64) (p2 : Int64) (M : Mm) : Option (Int64 × Mm) :=
  f_X7_commonDivisor_9 FU p0 p2 (0 : Int32) M
set_option maxRecDepth 20000 in
set_option maxHeartbeats 4000000 in
theorem t_X7_commonDivisor (p0 : Int64) (p2 : Int64) (M : Mm) (x : Int64) (M' : Mm) (h : f_X7_commonDivisor p0 p2 M = some (x, M')) : Ctr yX7_commonDivisor cX7_commonDivisor 11 (some .long) rX7_commonDivisor (fun _ => [.long p0, .long p2]) M (zL x) M' := by
  refine ctr_of (plainFor_of_name (by decide)) (fun _ => Nat.le_of_ble_eq_true rfl) (fun z hz hin hq => ?_)
  have key : Sim z 0 [(0, .long p0), (2, .long p2)] [] M 0 0 (f_X7_commonDivisor p0 p2 M) (fun a b => a = x ∧ b = M') := by
    have hq : Ret z zL (fun a b => a = x ∧ b = M') := fun a b e => by rw [e.1, e.2]; exact hq
    unfold f_X7_commonDivisor
    refine r_lload_n hz dX7_commonDivisor_0 0 rfl ?_
    refine r_lstore (lv' := [(4, .long p0), (0, .long p0), (2, .long p2)]) hz dX7_commonDivisor_1 (by decide) rfl ?_
    refine r_lload_n hz dX7_commonDivisor_3 2 rfl ?_
    refine r_lstore (lv' := [(6, .long p2), (4, .long p0), (0, .long p0), (2, .long p2)]) hz dX7_commonDivisor_4 (by decide) rfl ?_
    refine r_iconst (v := 0) hz dX7_commonDivisor_6 rfl ?_
    refine r_istore (lv' := [(8, .int (0 : Int32)), (6, .long p2), (4, .long p0), (0, .long p0), (2, .long p2)]) hz dX7_commonDivisor_7 (by decide) rfl ?_
    refine r_sub [2, 1, 0] rfl ?_
    exact s_X7_commonDivisor_9 hz hq FU p0 p2 (0 : Int32) M
  exact key x M' h ⟨rfl, rfl⟩
theorem dX0_times_0 : decode cX0_times 0 = .ok (.lload_n 0, 1) := by decide +kernel
theorem dX0_times_1 : decode cX0_times 1 = .ok (.lconst 0, 1) := by decide +kernel
theorem dX0_times_2 : decode cX0_times 2 = .ok (.lcmp, 1) := by decide +kernel
theorem dX0_times_3 : decode cX0_times 3 = .ok (.ifCond .le 9, 3) := by decide +kernel
theorem dX0_times_6 : decode cX0_times 6 = .ok (.lload_n 2, 1) := by decide +kernel
theorem dX0_times_7 : decode cX0_times 7 = .ok (.lconst 0, 1) := by decide +kernel
theorem dX0_times_8 : decode cX0_times 8 = .ok (.lcmp, 1) := by decide +kernel
theorem dX0_times_9 : decode cX0_times 9 = .ok (.ifCond .gt 5, 3) := by decide +kernel
theorem dX0_times_12 : decode cX0_times 12 = .ok (.lconst 0, 1) := by decide +kernel
theorem dX0_times_13 : decode cX0_times 13 = .ok (.lreturn, 1) := by decide +kernel
theorem dX0_times_14 : decode cX0_times 14 = .ok (.lload_n 0, 1) := by decide +kernel
theorem dX0_times_15 : decode cX0_times 15 = .ok (.ldc2_w 39, 3) := by decide +kernel
theorem dX0_times_18 : decode cX0_times 18 = .ok (.lload_n 2, 1) := by decide +kernel
theorem dX0_times_19 : decode cX0_times 19 = .ok (.ldiv, 1) := by decide +kernel
theorem dX0_times_20 : decode cX0_times 20 = .ok (.lcmp, 1) := by decide +kernel
theorem dX0_times_21 : decode cX0_times 21 = .ok (.ifCond .le 9, 3) := by decide +kernel
theorem dX0_times_24 : decode cX0_times 24 = .ok (.ldc2_w 48, 3) := by decide +kernel
theorem dX0_times_27 : decode cX0_times 27 = .ok (.goto 6, 3) := by decide +kernel
theorem dX0_times_30 : decode cX0_times 30 = .ok (.lload_n 0, 1) := by decide +kernel
theorem dX0_times_31 : decode cX0_times 31 = .ok (.lload_n 2, 1) := by decide +kernel
theorem dX0_times_32 : decode cX0_times 32 = .ok (.lmul, 1) := by decide +kernel
theorem dX0_times_33 : decode cX0_times 33 = .ok (.lreturn, 1) := by decide +kernel
abbrev rX0_times : Room := { frames := 0, cells := 0, slots := 0, locals := 0 }
theorem cal_X0_times : CalOk yX0_times cX0_times 4 (some .long) 2 := ⟨wm_4_106, wm_1_7, by decide, by decide, by decide +kernel⟩
def f_X0_times (p0 : Int64) (p2 : Int64) (M : Mm) : Option (Int64 × Mm) :=
  (if p0 ≤ (0 : Int64) then
    some ((0 : Int64), M)
  else
    (if (0 : Int64) < p2 then
      ck (¬ p2 = 0) ((if p0 ≤ ((4611686018427387904 : Int64) / p2) then
        some ((p0 * p2), M)
      else
        some ((4611686018427387905 : Int64), M)))
    else
      some ((0 : Int64), M)))
set_option maxRecDepth 20000 in
set_option maxHeartbeats 4000000 in
theorem t_X0_times (p0 : Int64) (p2 : Int64) (M : Mm) (x : Int64) (M' : Mm) (h : f_X0_times p0 p2 M = some (x, M')) : Ctr yX0_times cX0_times 4 (some .long) rX0_times (fun _ => [.long p0, .long p2]) M (zL x) M' := by
  refine ctr_of (plainFor_of_name (by decide)) (fun _ => Nat.le_of_ble_eq_true rfl) (fun z hz hin hq => ?_)
  have key : Sim z 0 [(0, .long p0), (2, .long p2)] [] M 0 0 (f_X0_times p0 p2 M) (fun a b => a = x ∧ b = M') := by
    have hq : Ret z zL (fun a b => a = x ∧ b = M') := fun a b e => by rw [e.1, e.2]; exact hq
    unfold f_X0_times
    refine r_lload_n hz dX0_times_0 0 rfl ?_
    refine r_lconst (v := 0) hz dX0_times_1 rfl ?_
    refine r_lcmp_le (tgt := 12) hz dX0_times_2 dX0_times_3 rfl ?_ ?_
    · refine r_lconst (v := 0) hz dX0_times_12 rfl ?_
      exact r_lret hz hq dX0_times_13 (Nat.le_of_ble_eq_true rfl) (Nat.le_of_ble_eq_true rfl)
    · refine r_lload_n hz dX0_times_6 1 rfl ?_
      refine r_lconst (v := 0) hz dX0_times_7 rfl ?_
      refine r_lcmp_gt (tgt := 14) hz dX0_times_8 dX0_times_9 rfl ?_ ?_
      · refine r_lload_n hz dX0_times_14 0 rfl ?_
        refine r_ldc2 (v := 4611686018427387904) hz dX0_times_15 wm_4_107 ?_
        refine r_lload_n hz dX0_times_18 1 rfl ?_
        refine r_ldiv hz dX0_times_19 ?_
        refine r_lcmp_le (tgt := 30) hz dX0_times_20 dX0_times_21 rfl ?_ ?_
        · refine r_lload_n hz dX0_times_30 0 rfl ?_
          refine r_lload_n hz dX0_times_31 1 rfl ?_
          refine r_lmul hz dX0_times_32 ?_
          exact r_lret hz hq dX0_times_33 (Nat.le_of_ble_eq_true rfl) (Nat.le_of_ble_eq_true rfl)
        · refine r_ldc2 (v := 4611686018427387905) hz dX0_times_24 wm_4_108 ?_
          refine r_goto (tgt := 33) hz dX0_times_27 rfl ?_
          exact r_lret hz hq dX0_times_33 (Nat.le_of_ble_eq_true rfl) (Nat.le_of_ble_eq_true rfl)
      · refine r_lconst (v := 0) hz dX0_times_12 rfl ?_
        exact r_lret hz hq dX0_times_13 (Nat.le_of_ble_eq_true rfl) (Nat.le_of_ble_eq_true rfl)
  exact key x M' h ⟨rfl, rfl⟩
theorem dX4_payment_0 : decode cX4_payment 0 = .ok (.aload_n 0, 1) := by decide +kernel
theorem dX4_payment_1 : decode cX4_payment 1 = .ok (.getfield 49, 3) := by decide +kernel
theorem dX4_payment_4 : decode cX4_payment 4 = .ok (.iload_n 1, 1) := by decide +kernel
theorem dX4_payment_5 : decode cX4_payment 5 = .ok (.iaload, 1) := by decide +kernel
theorem dX4_payment_6 : decode cX4_payment 6 = .ok (.aload_n 0, 1) := by decide +kernel
theorem dX4_payment_7 : decode cX4_payment 7 = .ok (.getfield 52, 3) := by decide +kernel
theorem dX4_payment_10 : decode cX4_payment 10 = .ok (.iload_n 1, 1) := by decide +kernel
theorem dX4_payment_11 : decode cX4_payment 11 = .ok (.iaload, 1) := by decide +kernel
theorem dX4_payment_12 : decode cX4_payment 12 = .ok (.aload_n 0, 1) := by decide +kernel
theorem dX4_payment_13 : decode cX4_payment 13 = .ok (.getfield 55, 3) := by decide +kernel
theorem dX4_payment_16 : decode cX4_payment 16 = .ok (.iload_n 1, 1) := by decide +kernel
theorem dX4_payment_17 : decode cX4_payment 17 = .ok (.iaload, 1) := by decide +kernel
theorem dX4_payment_18 : decode cX4_payment 18 = .ok (.imul, 1) := by decide +kernel
theorem dX4_payment_19 : decode cX4_payment 19 = .ok (.iadd, 1) := by decide +kernel
theorem dX4_payment_20 : decode cX4_payment 20 = .ok (.istore_n 2, 1) := by decide +kernel
theorem dX4_payment_21 : decode cX4_payment 21 = .ok (.iconst 1, 1) := by decide +kernel
theorem dX4_payment_22 : decode cX4_payment 22 = .ok (.istore_n 3, 1) := by decide +kernel
theorem dX4_payment_23 : decode cX4_payment 23 = .ok (.iload_n 3, 1) := by decide +kernel
theorem dX4_payment_24 : decode cX4_payment 24 = .ok (.bipush 9, 2) := by decide +kernel
theorem dX4_payment_26 : decode cX4_payment 26 = .ok (.if_icmp .gt 37, 3) := by decide +kernel
theorem dX4_payment_29 : decode cX4_payment 29 = .ok (.iload_n 3, 1) := by decide +kernel
theorem dX4_payment_30 : decode cX4_payment 30 = .ok (.aload_n 0, 1) := by decide +kernel
theorem dX4_payment_31 : decode cX4_payment 31 = .ok (.getfield 52, 3) := by decide +kernel
theorem dX4_payment_34 : decode cX4_payment 34 = .ok (.iload_n 1, 1) := by decide +kernel
theorem dX4_payment_35 : decode cX4_payment 35 = .ok (.iaload, 1) := by decide +kernel
theorem dX4_payment_36 : decode cX4_payment 36 = .ok (.if_icmp .gt 27, 3) := by decide +kernel
theorem dX4_payment_39 : decode cX4_payment 39 = .ok (.aload_n 0, 1) := by decide +kernel
theorem dX4_payment_40 : decode cX4_payment 40 = .ok (.getfield 58, 3) := by decide +kernel
theorem dX4_payment_43 : decode cX4_payment 43 = .ok (.iload_n 1, 1) := by decide +kernel
theorem dX4_payment_44 : decode cX4_payment 44 = .ok (.iaload, 1) := by decide +kernel
theorem dX4_payment_45 : decode cX4_payment 45 = .ok (.ifCond .ne 18, 3) := by decide +kernel
theorem dX4_payment_48 : decode cX4_payment 48 = .ok (.iload_n 2, 1) := by decide +kernel
theorem dX4_payment_49 : decode cX4_payment 49 = .ok (.aload_n 0, 1) := by decide +kernel
theorem dX4_payment_50 : decode cX4_payment 50 = .ok (.getfield 34, 3) := by decide +kernel
theorem dX4_payment_53 : decode cX4_payment 53 = .ok (.iload_n 3, 1) := by decide +kernel
theorem dX4_payment_54 : decode cX4_payment 54 = .ok (.iaload, 1) := by decide +kernel
theorem dX4_payment_55 : decode cX4_payment 55 = .ok (.iadd, 1) := by decide +kernel
theorem dX4_payment_56 : decode cX4_payment 56 = .ok (.istore_n 2, 1) := by decide +kernel
theorem dX4_payment_57 : decode cX4_payment 57 = .ok (.iinc 3 1, 3) := by decide +kernel
theorem dX4_payment_60 : decode cX4_payment 60 = .ok (.goto (-37), 3) := by decide +kernel
theorem dX4_payment_63 : decode cX4_payment 63 = .ok (.iload_n 2, 1) := by decide +kernel
theorem dX4_payment_64 : decode cX4_payment 64 = .ok (.ireturn, 1) := by decide +kernel
abbrev rX4_payment : Room := { frames := 0, cells := 0, slots := 0, locals := 0 }
theorem cal_X4_payment : CalOk yX4_payment cX4_payment 4 (some .int) 1 := ⟨wm_4_78, wm_1_5, by decide, by decide, by decide +kernel⟩
def f_X4_payment_23 : Nat → Nat → Int32 → Int32 → Int32 → Mm → Option (Int32 × Mm)
  | 0, _, _, _, _, _ => none
  | n + 1, x0, x1, x2, x3, M =>
    (if (9 : Int32) < x3 then
      some (x2, M)
    else
      ck (gK M x0 = 4) (bR (gR M x0 13) fun q1 => ck (gK M q1 = 10 ∧ inb x1 (gN M q1)) ((if (gI M q1 (x1).toNatClampNeg) < x3 then
        some (x2, M)
      else
        ck (gK M x0 = 4) (bR (gR M x0 15) fun q2 => ck (gK M q2 = 10 ∧ inb x1 (gN M q2)) ((if ¬ (gI M q2 (x1).toNatClampNeg) = 0 then
          some (x2, M)
        else
          ck (gK M x0 = 4) (bR (gR M x0 7) fun q3 => ck (gK M q3 = 10 ∧ inb x3 (gN M q3)) (nm (x2 + (gI M q3 (x3).toNatClampNeg)) fun v4 =>
          f_X4_payment_23 n x0 x1 v4 (x3 + (1 : Int32)) M)))))))))
set_option maxRecDepth 20000 in
set_option maxHeartbeats 4000000 in
theorem s_X4_payment_23 {z : Zt} {K : Int32 → Mm → Prop} (hz : Good z RX4 cX4_payment 4 rX4_payment (some .int)) (hq : Ret z zI K) : ∀ (n : Nat) (x0 : Nat) (x1 : Int32) (x2 : Int32) (x3 : Int32) (M : Mm), Sim z 23 [(0, .ref x0), (1, .int x1), (2, .int x2), (3, .int x3)] [] M 0 0 (f_X4_payment_23 n x0 x1 x2 x3 M) K := by
  intro n
  induction n with
  | zero => exact fun _ _ _ _ _ => r_none
  | succ n ih =>
    intro x0 x1 x2 x3 M
    unfold f_X4_payment_23
    refine r_iload_n hz dX4_payment_23 3 rfl ?_
    refine r_bipush (v := 9) hz dX4_payment_24 rfl ?_
    refine r_icmp_gt (tgt := 63) hz dX4_payment_26 rfl ?_ ?_
    · refine r_iload_n hz dX4_payment_63 2 rfl ?_
      exact r_iret hz hq dX4_payment_64 (Nat.le_of_ble_eq_true rfl) (Nat.le_of_ble_eq_true rfl)
    · refine r_iload_n hz dX4_payment_29 3 rfl ?_
      refine r_aload_n hz dX4_payment_30 0 rfl ?_
      refine r_getR (j := 13) cl4 hz dX4_payment_31 (by decide) wm_2_14 rfl (fun q1 => ?_)
      refine r_iload_n hz dX4_payment_34 1 rfl ?_
      refine r_iald hz dX4_payment_35 ?_
      refine r_icmp_gt (tgt := 63) hz dX4_payment_36 rfl ?_ ?_
      · refine r_iload_n hz dX4_payment_63 2 rfl ?_
        exact r_iret hz hq dX4_payment_64 (Nat.le_of_ble_eq_true rfl) (Nat.le_of_ble_eq_true rfl)
      · refine r_aload_n hz dX4_payment_39 0 rfl ?_
        refine r_getR (j := 15) cl4 hz dX4_payment_40 (by decide) wm_2_18 rfl (fun q2 => ?_)
        refine r_iload_n hz dX4_payment_43 1 rfl ?_
        refine r_iald hz dX4_payment_44 ?_
        refine r_if_ne (tgt := 63) hz dX4_payment_45 rfl ?_ ?_
        · refine r_iload_n hz dX4_payment_63 2 rfl ?_
          exact r_iret hz hq dX4_payment_64 (Nat.le_of_ble_eq_true rfl) (Nat.le_of_ble_eq_true rfl)
        · refine r_iload_n hz dX4_payment_48 2 rfl ?_
          refine r_aload_n hz dX4_payment_49 0 rfl ?_
          refine r_getR (j := 7) cl4 hz dX4_payment_50 (by decide) wm_2_0 rfl (fun q3 => ?_)
          refine r_iload_n hz dX4_payment_53 3 rfl ?_
          refine r_iald hz dX4_payment_54 ?_
          refine r_iadd hz dX4_payment_55 ?_
          refine r_nmi (fun v4 => ?_)
          refine r_istore_n (lv' := [(2, .int v4), (0, .ref x0), (1, .int x1), (3, .int x3)]) hz dX4_payment_56 (by decide) rfl ?_
          refine r_iinc (v := (x3 + (1 : Int32))) (lv' := [(3, .int (x3 + (1 : Int32))), (2, .int v4), (0, .ref x0), (1, .int x1)]) hz dX4_payment_57 3 rfl rfl (by decide) rfl ?_
          refine r_goto (tgt := 23) hz dX4_payment_60 rfl ?_
          refine r_sub [2, 3, 1, 0] rfl ?_
          exact ih x0 x1 v4 (x3 + (1 : Int32)) M
def f_X4_payment (p0 : Nat) (p1 : Int32) (M : Mm) : Option (Int32 × Mm) :=
  ck (gK M p0 = 4) (bR (gR M p0 12) fun q1 => ck (gK M q1 = 10 ∧ inb p1 (gN M q1)) (ck (gK M p0 = 4) (bR (gR M p0 13) fun q2 => ck (gK M q2 = 10 ∧ inb p1 (gN M q2)) (ck (gK M p0 = 4) (bR (gR M p0 14) fun q3 => ck (gK M q3 = 10 ∧ inb p1 (gN M q3)) (nm ((gI M q1 (p1).toNatClampNeg) + ((gI M q2 (p1).toNatClampNeg) * (gI M q3 (p1).toNatClampNeg))) fun v4 =>
  f_X4_payment_23 FU p0 p1 v4 (1 : Int32) M))))))
set_option maxRecDepth 20000 in
set_option maxHeartbeats 4000000 in
theorem t_X4_payment (p0 : Nat) (p1 : Int32) (M : Mm) (x : Int32) (M' : Mm) (h : f_X4_payment p0 p1 M = some (x, M')) : Ctr yX4_payment cX4_payment 4 (some .int) rX4_payment (fun _ => [.ref p0, .int p1]) M (zI x) M' := by
  refine ctr_of (plainFor_of_name (by decide)) (fun _ => Nat.le_of_ble_eq_true rfl) (fun z hz hin hq => ?_)
  have key : Sim z 0 [(0, .ref p0), (1, .int p1)] [] M 0 0 (f_X4_payment p0 p1 M) (fun a b => a = x ∧ b = M') := by
    have hq : Ret z zI (fun a b => a = x ∧ b = M') := fun a b e => by rw [e.1, e.2]; exact hq
    unfold f_X4_payment
    refine r_aload_n hz dX4_payment_0 0 rfl ?_
    refine r_getR (j := 12) cl4 hz dX4_payment_1 (by decide) wm_2_12 rfl (fun q1 => ?_)
    refine r_iload_n hz dX4_payment_4 1 rfl ?_
    refine r_iald hz dX4_payment_5 ?_
    refine r_aload_n hz dX4_payment_6 0 rfl ?_
    refine r_getR (j := 13) cl4 hz dX4_payment_7 (by decide) wm_2_14 rfl (fun q2 => ?_)
    refine r_iload_n hz dX4_payment_10 1 rfl ?_
    refine r_iald hz dX4_payment_11 ?_
    refine r_aload_n hz dX4_payment_12 0 rfl ?_
    refine r_getR (j := 14) cl4 hz dX4_payment_13 (by decide) wm_2_16 rfl (fun q3 => ?_)
    refine r_iload_n hz dX4_payment_16 1 rfl ?_
    refine r_iald hz dX4_payment_17 ?_
    refine r_imul hz dX4_payment_18 ?_
    refine r_iadd hz dX4_payment_19 ?_
    refine r_nmi (fun v4 => ?_)
    refine r_istore_n (lv' := [(2, .int v4), (0, .ref p0), (1, .int p1)]) hz dX4_payment_20 (by decide) rfl ?_
    refine r_iconst (v := 1) hz dX4_payment_21 rfl ?_
    refine r_istore_n (lv' := [(3, .int (1 : Int32)), (2, .int v4), (0, .ref p0), (1, .int p1)]) hz dX4_payment_22 (by decide) rfl ?_
    refine r_sub [2, 3, 1, 0] rfl ?_
    exact s_X4_payment_23 hz hq FU p0 p1 v4 (1 : Int32) M
  exact key x M' h ⟨rfl, rfl⟩
theorem dX0_plus_0 : decode cX0_plus 0 = .ok (.lload_n 0, 1) := by decide +kernel
theorem dX0_plus_1 : decode cX0_plus 1 = .ok (.ldc2_w 39, 3) := by decide +kernel
theorem dX0_plus_4 : decode cX0_plus 4 = .ok (.lload_n 2, 1) := by decide +kernel
theorem dX0_plus_5 : decode cX0_plus 5 = .ok (.lsub, 1) := by decide +kernel
theorem dX0_plus_6 : decode cX0_plus 6 = .ok (.lcmp, 1) := by decide +kernel
theorem dX0_plus_7 : decode cX0_plus 7 = .ok (.ifCond .le 9, 3) := by decide +kernel
theorem dX0_plus_10 : decode cX0_plus 10 = .ok (.ldc2_w 48, 3) := by decide +kernel
theorem dX0_plus_13 : decode cX0_plus 13 = .ok (.goto 6, 3) := by decide +kernel
theorem dX0_plus_16 : decode cX0_plus 16 = .ok (.lload_n 0, 1) := by decide +kernel
theorem dX0_plus_17 : decode cX0_plus 17 = .ok (.lload_n 2, 1) := by decide +kernel
theorem dX0_plus_18 : decode cX0_plus 18 = .ok (.ladd, 1) := by decide +kernel
theorem dX0_plus_19 : decode cX0_plus 19 = .ok (.lreturn, 1) := by decide +kernel
abbrev rX0_plus : Room := { frames := 0, cells := 0, slots := 0, locals := 0 }
theorem cal_X0_plus : CalOk yX0_plus cX0_plus 4 (some .long) 2 := ⟨wm_4_112, wm_1_7, by decide, by decide, by decide +kernel⟩
def f_X0_plus (p0 : Int64) (p2 : Int64) (M : Mm) : Option (Int64 × Mm) :=
  (if p0 ≤ ((4611686018427387904 : Int64) - p2) then
    some ((p0 + p2), M)
  else
    some ((4611686018427387905 : Int64), M))
set_option maxRecDepth 20000 in
set_option maxHeartbeats 4000000 in
theorem t_X0_plus (p0 : Int64) (p2 : Int64) (M : Mm) (x : Int64) (M' : Mm) (h : f_X0_plus p0 p2 M = some (x, M')) : Ctr yX0_plus cX0_plus 4 (some .long) rX0_plus (fun _ => [.long p0, .long p2]) M (zL x) M' := by
  refine ctr_of (plainFor_of_name (by decide)) (fun _ => Nat.le_of_ble_eq_true rfl) (fun z hz hin hq => ?_)
  have key : Sim z 0 [(0, .long p0), (2, .long p2)] [] M 0 0 (f_X0_plus p0 p2 M) (fun a b => a = x ∧ b = M') := by
    have hq : Ret z zL (fun a b => a = x ∧ b = M') := fun a b e => by rw [e.1, e.2]; exact hq
    unfold f_X0_plus
    refine r_lload_n hz dX0_plus_0 0 rfl ?_
    refine r_ldc2 (v := 4611686018427387904) hz dX0_plus_1 wm_4_107 ?_
    refine r_lload_n hz dX0_plus_4 1 rfl ?_
    refine r_lsub hz dX0_plus_5 ?_
    refine r_lcmp_le (tgt := 16) hz dX0_plus_6 dX0_plus_7 rfl ?_ ?_
    · refine r_lload_n hz dX0_plus_16 0 rfl ?_
      refine r_lload_n hz dX0_plus_17 1 rfl ?_
      refine r_ladd hz dX0_plus_18 ?_
      exact r_lret hz hq dX0_plus_19 (Nat.le_of_ble_eq_true rfl) (Nat.le_of_ble_eq_true rfl)
    · refine r_ldc2 (v := 4611686018427387905) hz dX0_plus_10 wm_4_108 ?_
      refine r_goto (tgt := 19) hz dX0_plus_13 rfl ?_
      exact r_lret hz hq dX0_plus_19 (Nat.le_of_ble_eq_true rfl) (Nat.le_of_ble_eq_true rfl)
  exact key x M' h ⟨rfl, rfl⟩
theorem dX0_weigh_0 : decode cX0_weigh 0 = .ok (.ldc2_w 18, 3) := by decide +kernel
theorem dX0_weigh_3 : decode cX0_weigh 3 = .ok (.bipush 100, 2) := by decide +kernel
theorem dX0_weigh_5 : decode cX0_weigh 5 = .ok (.iload_n 2, 1) := by decide +kernel
theorem dX0_weigh_6 : decode cX0_weigh 6 = .ok (.iadd, 1) := by decide +kernel
theorem dX0_weigh_7 : decode cX0_weigh 7 = .ok (.i2l, 1) := by decide +kernel
theorem dX0_weigh_8 : decode cX0_weigh 8 = .ok (.invokestatic 20, 3) := by decide +kernel
theorem dX0_weigh_11 : decode cX0_weigh 11 = .ok (.lstore_n 3, 1) := by decide +kernel
theorem dX0_weigh_12 : decode cX0_weigh 12 = .ok (.lload_n 3, 1) := by decide +kernel
theorem dX0_weigh_13 : decode cX0_weigh 13 = .ok (.lconst 0, 1) := by decide +kernel
theorem dX0_weigh_14 : decode cX0_weigh 14 = .ok (.lcmp, 1) := by decide +kernel
theorem dX0_weigh_15 : decode cX0_weigh 15 = .ok (.ifCond .gt 5, 3) := by decide +kernel
theorem dX0_weigh_18 : decode cX0_weigh 18 = .ok (.iconst 0, 1) := by decide +kernel
theorem dX0_weigh_19 : decode cX0_weigh 19 = .ok (.ireturn, 1) := by decide +kernel
theorem dX0_weigh_20 : decode cX0_weigh 20 = .ok (.ldc2_w 18, 3) := by decide +kernel
theorem dX0_weigh_23 : decode cX0_weigh 23 = .ok (.lload_n 3, 1) := by decide +kernel
theorem dX0_weigh_24 : decode cX0_weigh 24 = .ok (.ldiv, 1) := by decide +kernel
theorem dX0_weigh_25 : decode cX0_weigh 25 = .ok (.lstore 5, 2) := by decide +kernel
theorem dX0_weigh_27 : decode cX0_weigh 27 = .ok (.bipush 100, 2) := by decide +kernel
theorem dX0_weigh_29 : decode cX0_weigh 29 = .ok (.iload_n 2, 1) := by decide +kernel
theorem dX0_weigh_30 : decode cX0_weigh 30 = .ok (.iadd, 1) := by decide +kernel
theorem dX0_weigh_31 : decode cX0_weigh 31 = .ok (.i2l, 1) := by decide +kernel
theorem dX0_weigh_32 : decode cX0_weigh 32 = .ok (.lload_n 3, 1) := by decide +kernel
theorem dX0_weigh_33 : decode cX0_weigh 33 = .ok (.ldiv, 1) := by decide +kernel
theorem dX0_weigh_34 : decode cX0_weigh 34 = .ok (.lstore 7, 2) := by decide +kernel
theorem dX0_weigh_36 : decode cX0_weigh 36 = .ok (.aload_n 0, 1) := by decide +kernel
theorem dX0_weigh_37 : decode cX0_weigh 37 = .ok (.aload_n 1, 1) := by decide +kernel
theorem dX0_weigh_38 : decode cX0_weigh 38 = .ok (.getfield 24, 3) := by decide +kernel
theorem dX0_weigh_41 : decode cX0_weigh 41 = .ok (.i2l, 1) := by decide +kernel
theorem dX0_weigh_42 : decode cX0_weigh 42 = .ok (.putfield 15, 3) := by decide +kernel
theorem dX0_weigh_45 : decode cX0_weigh 45 = .ok (.aload_n 1, 1) := by decide +kernel
theorem dX0_weigh_46 : decode cX0_weigh 46 = .ok (.getfield 30, 3) := by decide +kernel
theorem dX0_weigh_49 : decode cX0_weigh 49 = .ok (.istore 9, 2) := by decide +kernel
theorem dX0_weigh_51 : decode cX0_weigh 51 = .ok (.iload 9, 2) := by decide +kernel
theorem dX0_weigh_53 : decode cX0_weigh 53 = .ok (.aload_n 1, 1) := by decide +kernel
theorem dX0_weigh_54 : decode cX0_weigh 54 = .ok (.getfield 33, 3) := by decide +kernel
theorem dX0_weigh_57 : decode cX0_weigh 57 = .ok (.if_icmp .gt 22, 3) := by decide +kernel
theorem dX0_weigh_60 : decode cX0_weigh 60 = .ok (.aload_n 0, 1) := by decide +kernel
theorem dX0_weigh_61 : decode cX0_weigh 61 = .ok (.aload_n 0, 1) := by decide +kernel
theorem dX0_weigh_62 : decode cX0_weigh 62 = .ok (.getfield 15, 3) := by decide +kernel
theorem dX0_weigh_65 : decode cX0_weigh 65 = .ok (.lload 7, 2) := by decide +kernel
theorem dX0_weigh_67 : decode cX0_weigh 67 = .ok (.invokestatic 36, 3) := by decide +kernel
theorem dX0_weigh_70 : decode cX0_weigh 70 = .ok (.putfield 15, 3) := by decide +kernel
theorem dX0_weigh_73 : decode cX0_weigh 73 = .ok (.iinc 9 1, 3) := by decide +kernel
theorem dX0_weigh_76 : decode cX0_weigh 76 = .ok (.goto (-25), 3) := by decide +kernel
theorem dX0_weigh_79 : decode cX0_weigh 79 = .ok (.aload_n 0, 1) := by decide +kernel
theorem dX0_weigh_80 : decode cX0_weigh 80 = .ok (.getfield 15, 3) := by decide +kernel
theorem dX0_weigh_83 : decode cX0_weigh 83 = .ok (.ldc2_w 39, 3) := by decide +kernel
theorem dX0_weigh_86 : decode cX0_weigh 86 = .ok (.lcmp, 1) := by decide +kernel
theorem dX0_weigh_87 : decode cX0_weigh 87 = .ok (.ifCond .le 5, 3) := by decide +kernel
theorem dX0_weigh_90 : decode cX0_weigh 90 = .ok (.iconst 0, 1) := by decide +kernel
theorem dX0_weigh_91 : decode cX0_weigh 91 = .ok (.ireturn, 1) := by decide +kernel
theorem dX0_weigh_92 : decode cX0_weigh 92 = .ok (.aload_n 0, 1) := by decide +kernel
theorem dX0_weigh_93 : decode cX0_weigh 93 = .ok (.lconst 0, 1) := by decide +kernel
theorem dX0_weigh_94 : decode cX0_weigh 94 = .ok (.putfield 9, 3) := by decide +kernel
theorem dX0_weigh_97 : decode cX0_weigh 97 = .ok (.lconst 1, 1) := by decide +kernel
theorem dX0_weigh_98 : decode cX0_weigh 98 = .ok (.lstore 9, 2) := by decide +kernel
theorem dX0_weigh_100 : decode cX0_weigh 100 = .ok (.aload_n 1, 1) := by decide +kernel
theorem dX0_weigh_101 : decode cX0_weigh 101 = .ok (.getfield 30, 3) := by decide +kernel
theorem dX0_weigh_104 : decode cX0_weigh 104 = .ok (.istore 11, 2) := by decide +kernel
theorem dX0_weigh_106 : decode cX0_weigh 106 = .ok (.iload 11, 2) := by decide +kernel
theorem dX0_weigh_108 : decode cX0_weigh 108 = .ok (.aload_n 1, 1) := by decide +kernel
theorem dX0_weigh_109 : decode cX0_weigh 109 = .ok (.getfield 33, 3) := by decide +kernel
theorem dX0_weigh_112 : decode cX0_weigh 112 = .ok (.if_icmp .gt 46, 3) := by decide +kernel
theorem dX0_weigh_115 : decode cX0_weigh 115 = .ok (.lload 9, 2) := by decide +kernel
theorem dX0_weigh_117 : decode cX0_weigh 117 = .ok (.lload 5, 2) := by decide +kernel
theorem dX0_weigh_119 : decode cX0_weigh 119 = .ok (.invokestatic 36, 3) := by decide +kernel
theorem dX0_weigh_122 : decode cX0_weigh 122 = .ok (.lstore 9, 2) := by decide +kernel
theorem dX0_weigh_124 : decode cX0_weigh 124 = .ok (.aload_n 0, 1) := by decide +kernel
theorem dX0_weigh_125 : decode cX0_weigh 125 = .ok (.aload_n 0, 1) := by decide +kernel
theorem dX0_weigh_126 : decode cX0_weigh 126 = .ok (.getfield 9, 3) := by decide +kernel
theorem dX0_weigh_129 : decode cX0_weigh 129 = .ok (.lload 7, 2) := by decide +kernel
theorem dX0_weigh_131 : decode cX0_weigh 131 = .ok (.invokestatic 36, 3) := by decide +kernel
theorem dX0_weigh_134 : decode cX0_weigh 134 = .ok (.aload_n 1, 1) := by decide +kernel
theorem dX0_weigh_135 : decode cX0_weigh 135 = .ok (.iload 11, 2) := by decide +kernel
theorem dX0_weigh_137 : decode cX0_weigh 137 = .ok (.invokevirtual 41, 3) := by decide +kernel
theorem dX0_weigh_140 : decode cX0_weigh 140 = .ok (.i2l, 1) := by decide +kernel
theorem dX0_weigh_141 : decode cX0_weigh 141 = .ok (.lload 9, 2) := by decide +kernel
theorem dX0_weigh_143 : decode cX0_weigh 143 = .ok (.invokestatic 36, 3) := by decide +kernel
theorem dX0_weigh_146 : decode cX0_weigh 146 = .ok (.invokestatic 45, 3) := by decide +kernel
theorem dX0_weigh_149 : decode cX0_weigh 149 = .ok (.putfield 9, 3) := by decide +kernel
theorem dX0_weigh_152 : decode cX0_weigh 152 = .ok (.iinc 11 1, 3) := by decide +kernel
theorem dX0_weigh_155 : decode cX0_weigh 155 = .ok (.goto (-49), 3) := by decide +kernel
theorem dX0_weigh_158 : decode cX0_weigh 158 = .ok (.aload_n 0, 1) := by decide +kernel
theorem dX0_weigh_159 : decode cX0_weigh 159 = .ok (.getfield 9, 3) := by decide +kernel
theorem dX0_weigh_162 : decode cX0_weigh 162 = .ok (.ldc2_w 39, 3) := by decide +kernel
theorem dX0_weigh_165 : decode cX0_weigh 165 = .ok (.lcmp, 1) := by decide +kernel
theorem dX0_weigh_166 : decode cX0_weigh 166 = .ok (.ifCond .gt 7, 3) := by decide +kernel
theorem dX0_weigh_169 : decode cX0_weigh 169 = .ok (.iconst 1, 1) := by decide +kernel
theorem dX0_weigh_170 : decode cX0_weigh 170 = .ok (.goto 4, 3) := by decide +kernel
theorem dX0_weigh_173 : decode cX0_weigh 173 = .ok (.iconst 0, 1) := by decide +kernel
theorem dX0_weigh_174 : decode cX0_weigh 174 = .ok (.ireturn, 1) := by decide +kernel
abbrev rX0_weigh : Room := { frames := 1, cells := 0, slots := 0, locals := 30 }
theorem cal_X0_weigh : CalOk yX0_weigh cX0_weigh 12 (some .boolean) 2 := ⟨wm_4_101, wm_1_7, by decide, by decide, by decide +kernel⟩
def f_X0_weigh_106 : Nat → Nat → Nat → Int64 → Int64 → Int64 → Int32 → Mm → Option (Int32 × Mm)
  | 0, _, _, _, _, _, _, _ => none
  | n + 1, x0, x1, x5, x7, x9, x11, M =>
    ck (gK M x1 = 4) ((if (gI M x1 9) < x11 then
      ck (gK M x0 = 0) ((if (4611686018427387904 : Int64) < (gL M x0 0) then
        some ((0 : Int32), M)
      else
        some ((1 : Int32), M)))
    else
      bd (f_X0_times x9 x5 M) fun v2 M1 =>
      ck (gK M1 x0 = 0) (bd (f_X0_times (gL M1 x0 0) x7 M1) fun v4 M3 =>
      ck (gK M3 x1 = 4) (bd (f_X4_payment x1 x11 M3) fun v6 M5 =>
      bd (f_X0_times (v6).toInt64 v2 M5) fun v8 M7 =>
      bd (f_X0_plus v4 v8 M7) fun v10 M9 =>
      ck (gK M9 x0 = 0) (nm (sL M9 x0 0 v10) fun M11 =>
      f_X0_weigh_106 n x0 x1 x5 x7 v2 (x11 + (1 : Int32)) M11)))))
set_option maxRecDepth 20000 in
set_option maxHeartbeats 4000000 in
theorem s_X0_weigh_106 {z : Zt} {K : Int32 → Mm → Prop} (hz : Good z RX0 cX0_weigh 12 rX0_weigh (some .boolean)) (hq : Ret z zI K) : ∀ (n : Nat) (x0 : Nat) (x1 : Nat) (x5 : Int64) (x7 : Int64) (x9 : Int64) (x11 : Int32) (M : Mm), Sim z 106 [(0, .ref x0), (1, .ref x1), (5, .long x5), (7, .long x7), (9, .long x9), (11, .int x11)] [] M 0 0 (f_X0_weigh_106 n x0 x1 x5 x7 x9 x11 M) K := by
  intro n
  induction n with
  | zero => exact fun _ _ _ _ _ _ _ => r_none
  | succ n ih =>
    intro x0 x1 x5 x7 x9 x11 M
    unfold f_X0_weigh_106
    refine r_iload hz dX0_weigh_106 5 rfl ?_
    refine r_aload_n hz dX0_weigh_108 1 rfl ?_
    refine r_getI (j := 9) cl4 hz dX0_weigh_109 (by decide) wm_2_5 rfl ?_
    refine r_icmp_gt (tgt := 158) hz dX0_weigh_112 rfl ?_ ?_
    · refine r_aload_n hz dX0_weigh_158 0 rfl ?_
      refine r_getL (j := 0) cl0 hz dX0_weigh_159 (by decide) wm_2_80 rfl ?_
      refine r_ldc2 (v := 4611686018427387904) hz dX0_weigh_162 wm_4_107 ?_
      refine r_lcmp_gt (tgt := 173) hz dX0_weigh_165 dX0_weigh_166 rfl ?_ ?_
      · refine r_iconst (v := 0) hz dX0_weigh_173 rfl ?_
        exact r_zret hz hq dX0_weigh_174 (Or.inl rfl) (Nat.le_of_ble_eq_true rfl) (Nat.le_of_ble_eq_true rfl)
      · refine r_iconst (v := 1) hz dX0_weigh_169 rfl ?_
        refine r_goto (tgt := 174) hz dX0_weigh_170 rfl ?_
        exact r_zret hz hq dX0_weigh_174 (Or.inr rfl) (Nat.le_of_ble_eq_true rfl) (Nat.le_of_ble_eq_true rfl)
    · refine r_lload hz dX0_weigh_115 4 rfl ?_
      refine r_lload hz dX0_weigh_117 2 rfl ?_
      refine r_callSl (As := fun _ => [.long x9, .long x5]) hz (fun _ _ h => t_X0_times _ _ _ _ _ h) cal_X0_times dX0_weigh_119 wm_4_104 wm_4_105 rfl rfl (Nat.le_of_ble_eq_true rfl) ⟨(Nat.le_of_ble_eq_true rfl), (Nat.le_of_ble_eq_true rfl)⟩ ⟨(Nat.le_of_ble_eq_true rfl), (Nat.le_of_ble_eq_true rfl)⟩ (fun v2 M1 => ?_)
      refine r_lstore (lv' := [(9, .long v2), (0, .ref x0), (1, .ref x1), (5, .long x5), (7, .long x7), (11, .int x11)]) hz dX0_weigh_122 (by decide) rfl ?_
      refine r_aload_n hz dX0_weigh_124 1 rfl ?_
      refine r_aload_n hz dX0_weigh_125 1 rfl ?_
      refine r_getL (j := 0) cl0 hz dX0_weigh_126 (by decide) wm_2_80 rfl ?_
      refine r_lload hz dX0_weigh_129 4 rfl ?_
      refine r_callSl (As := fun _ => [.long (gL M1 x0 0), .long x7]) hz (fun _ _ h => t_X0_times _ _ _ _ _ h) cal_X0_times dX0_weigh_131 wm_4_104 wm_4_105 rfl rfl (Nat.le_of_ble_eq_true rfl) ⟨(Nat.le_of_ble_eq_true rfl), (Nat.le_of_ble_eq_true rfl)⟩ ⟨(Nat.le_of_ble_eq_true rfl), (Nat.le_of_ble_eq_true rfl)⟩ (fun v4 M3 => ?_)
      refine r_aload_n hz dX0_weigh_134 2 rfl ?_
      refine r_iload hz dX0_weigh_135 5 rfl ?_
      refine r_callVi (As := fun _ => [.int x11]) cl4 hz (fun _ _ h => t_X4_payment _ _ _ _ _ h) cal_X4_payment dX0_weigh_137 wm_4_109 wm_4_76 wm_4_77 rfl rfl (Nat.le_of_ble_eq_true rfl) ⟨(Nat.le_of_ble_eq_true rfl), (Nat.le_of_ble_eq_true rfl)⟩ ⟨(Nat.le_of_ble_eq_true rfl), (Nat.le_of_ble_eq_true rfl)⟩ (fun v6 M5 => ?_)
      refine r_i2l hz dX0_weigh_140 ?_
      refine r_lload hz dX0_weigh_141 0 rfl ?_
      refine r_callSl (As := fun _ => [.long (v6).toInt64, .long v2]) hz (fun _ _ h => t_X0_times _ _ _ _ _ h) cal_X0_times dX0_weigh_143 wm_4_104 wm_4_105 rfl rfl (Nat.le_of_ble_eq_true rfl) ⟨(Nat.le_of_ble_eq_true rfl), (Nat.le_of_ble_eq_true rfl)⟩ ⟨(Nat.le_of_ble_eq_true rfl), (Nat.le_of_ble_eq_true rfl)⟩ (fun v8 M7 => ?_)
      refine r_callSl (As := fun _ => [.long v4, .long v8]) hz (fun _ _ h => t_X0_plus _ _ _ _ _ h) cal_X0_plus dX0_weigh_146 wm_4_110 wm_4_111 rfl rfl (Nat.le_of_ble_eq_true rfl) ⟨(Nat.le_of_ble_eq_true rfl), (Nat.le_of_ble_eq_true rfl)⟩ ⟨(Nat.le_of_ble_eq_true rfl), (Nat.le_of_ble_eq_true rfl)⟩ (fun v10 M9 => ?_)
      refine r_putL (j := 0) cl0 hz dX0_weigh_149 (by decide) wm_2_80 (Or.inl rfl) rfl rfl rfl ?_
      refine r_nmM (fun M11 => ?_)
      refine r_iinc (v := (x11 + (1 : Int32))) (lv' := [(11, .int (x11 + (1 : Int32))), (9, .long v2), (0, .ref x0), (1, .ref x1), (5, .long x5), (7, .long x7)]) hz dX0_weigh_152 5 rfl rfl (by decide) rfl ?_
      refine r_goto (tgt := 106) hz dX0_weigh_155 rfl ?_
      refine r_sub [2, 3, 4, 5, 1, 0] rfl ?_
      exact ih x0 x1 x5 x7 v2 (x11 + (1 : Int32)) M11
def f_X0_weigh_51 : Nat → Nat → Nat → Int64 → Int64 → Int32 → Mm → Option (Int32 × Mm)
  | 0, _, _, _, _, _, _ => none
  | n + 1, x0, x1, x5, x7, x9, M =>
    ck (gK M x1 = 4) ((if (gI M x1 9) < x9 then
      ck (gK M x0 = 0) ((if (gL M x0 1) ≤ (4611686018427387904 : Int64) then
        ck (gK M x0 = 0) (nm (sL M x0 0 (0 : Int64)) fun M1 =>
        ck (gK M1 x1 = 4) (nm (gI M1 x1 8) fun v2 =>
        f_X0_weigh_106 FU x0 x1 x5 x7 (1 : Int64) v2 M1))
      else
        some ((0 : Int32), M)))
    else
      ck (gK M x0 = 0) (bd (f_X0_times (gL M x0 1) x7 M) fun v4 M3 =>
      ck (gK M3 x0 = 0) (nm (sL M3 x0 1 v4) fun M5 =>
      f_X0_weigh_51 n x0 x1 x5 x7 (x9 + (1 : Int32)) M5))))
set_option maxRecDepth 20000 in
set_option maxHeartbeats 4000000 in
theorem s_X0_weigh_51 {z : Zt} {K : Int32 → Mm → Prop} (hz : Good z RX0 cX0_weigh 12 rX0_weigh (some .boolean)) (hq : Ret z zI K) : ∀ (n : Nat) (x0 : Nat) (x1 : Nat) (x5 : Int64) (x7 : Int64) (x9 : Int32) (M : Mm), Sim z 51 [(0, .ref x0), (1, .ref x1), (5, .long x5), (7, .long x7), (9, .int x9)] [] M 0 0 (f_X0_weigh_51 n x0 x1 x5 x7 x9 M) K := by
  intro n
  induction n with
  | zero => exact fun _ _ _ _ _ _ => r_none
  | succ n ih =>
    intro x0 x1 x5 x7 x9 M
    unfold f_X0_weigh_51
    refine r_iload hz dX0_weigh_51 4 rfl ?_
    refine r_aload_n hz dX0_weigh_53 1 rfl ?_
    refine r_getI (j := 9) cl4 hz dX0_weigh_54 (by decide) wm_2_5 rfl ?_
    refine r_icmp_gt (tgt := 79) hz dX0_weigh_57 rfl ?_ ?_
    · refine r_aload_n hz dX0_weigh_79 0 rfl ?_
      refine r_getL (j := 1) cl0 hz dX0_weigh_80 (by decide) wm_2_82 rfl ?_
      refine r_ldc2 (v := 4611686018427387904) hz dX0_weigh_83 wm_4_107 ?_
      refine r_lcmp_le (tgt := 92) hz dX0_weigh_86 dX0_weigh_87 rfl ?_ ?_
      · refine r_aload_n hz dX0_weigh_92 0 rfl ?_
        refine r_lconst (v := 0) hz dX0_weigh_93 rfl ?_
        refine r_putL (j := 0) cl0 hz dX0_weigh_94 (by decide) wm_2_80 (Or.inl rfl) rfl rfl rfl ?_
        refine r_nmM (fun M1 => ?_)
        refine r_lconst (v := 1) hz dX0_weigh_97 rfl ?_
        refine r_lstore (lv' := [(9, .long (1 : Int64)), (0, .ref x0), (1, .ref x1), (5, .long x5), (7, .long x7)]) hz dX0_weigh_98 (by decide) rfl ?_
        refine r_aload_n hz dX0_weigh_100 2 rfl ?_
        refine r_getI (j := 8) cl4 hz dX0_weigh_101 (by decide) wm_2_2 rfl ?_
        refine r_nmi (fun v2 => ?_)
        refine r_istore (lv' := [(11, .int v2), (9, .long (1 : Int64)), (0, .ref x0), (1, .ref x1), (5, .long x5), (7, .long x7)]) hz dX0_weigh_104 (by decide) rfl ?_
        refine r_sub [2, 3, 4, 5, 1, 0] rfl ?_
        exact s_X0_weigh_106 hz hq FU x0 x1 x5 x7 (1 : Int64) v2 M1
      · refine r_iconst (v := 0) hz dX0_weigh_90 rfl ?_
        exact r_zret hz hq dX0_weigh_91 (Or.inl rfl) (Nat.le_of_ble_eq_true rfl) (Nat.le_of_ble_eq_true rfl)
    · refine r_aload_n hz dX0_weigh_60 0 rfl ?_
      refine r_aload_n hz dX0_weigh_61 0 rfl ?_
      refine r_getL (j := 1) cl0 hz dX0_weigh_62 (by decide) wm_2_82 rfl ?_
      refine r_lload hz dX0_weigh_65 3 rfl ?_
      refine r_callSl (As := fun _ => [.long (gL M x0 1), .long x7]) hz (fun _ _ h => t_X0_times _ _ _ _ _ h) cal_X0_times dX0_weigh_67 wm_4_104 wm_4_105 rfl rfl (Nat.le_of_ble_eq_true rfl) ⟨(Nat.le_of_ble_eq_true rfl), (Nat.le_of_ble_eq_true rfl)⟩ ⟨(Nat.le_of_ble_eq_true rfl), (Nat.le_of_ble_eq_true rfl)⟩ (fun v4 M3 => ?_)
      refine r_putL (j := 1) cl0 hz dX0_weigh_70 (by decide) wm_2_82 (Or.inl rfl) rfl rfl rfl ?_
      refine r_nmM (fun M5 => ?_)
      refine r_iinc (v := (x9 + (1 : Int32))) (lv' := [(9, .int (x9 + (1 : Int32))), (0, .ref x0), (1, .ref x1), (5, .long x5), (7, .long x7)]) hz dX0_weigh_73 4 rfl rfl (by decide) rfl ?_
      refine r_goto (tgt := 51) hz dX0_weigh_76 rfl ?_
      refine r_sub [1, 2, 3, 4, 0] rfl ?_
      exact ih x0 x1 x5 x7 (x9 + (1 : Int32)) M5
def f_X0_weigh (p0 : Nat) (p1 : Nat) (p2 : Int32) (M : Mm) : Option (Int32 × Mm) :=
  bd (f_X7_commonDivisor (100 : Int64) (((100 : Int32) + p2)).toInt64 M) fun v2 M1 =>
  (if (0 : Int64) < v2 then
    ck (¬ v2 = 0) (nm ((100 : Int64) / v2) fun v3 =>
    ck (¬ v2 = 0) (nm ((((100 : Int32) + p2)).toInt64 / v2) fun v4 =>
    ck (gK M1 p1 = 4) (ck (gK M1 p0 = 0) (nm (sL M1 p0 1 ((gI M1 p1 10)).toInt64) fun M5 =>
    ck (gK M5 p1 = 4) (nm (gI M5 p1 8) fun v6 =>
    f_X0_weigh_51 FU p0 p1 v3 v4 v6 M5)))))
  else
    some ((0 : Int32), M1))
set_option maxRecDepth 20000 in
set_option maxHeartbeats 4000000 in
theorem t_X0_weigh (p0 : Nat) (p1 : Nat) (p2 : Int32) (M : Mm) (x : Int32) (M' : Mm) (h : f_X0_weigh p0 p1 p2 M = some (x, M')) : Ctr yX0_weigh cX0_weigh 12 (some .boolean) rX0_weigh (fun _ => [.ref p0, .ref p1, .int p2]) M (zI x) M' := by
  refine ctr_of (plainFor_of_name (by decide)) (fun _ => Nat.le_of_ble_eq_true rfl) (fun z hz hin hq => ?_)
  have key : Sim z 0 [(0, .ref p0), (1, .ref p1), (2, .int p2)] [] M 0 0 (f_X0_weigh p0 p1 p2 M) (fun a b => a = x ∧ b = M') := by
    have hq : Ret z zI (fun a b => a = x ∧ b = M') := fun a b e => by rw [e.1, e.2]; exact hq
    unfold f_X0_weigh
    refine r_ldc2 (v := 100) hz dX0_weigh_0 wm_4_102 ?_
    refine r_bipush (v := 100) hz dX0_weigh_3 rfl ?_
    refine r_iload_n hz dX0_weigh_5 2 rfl ?_
    refine r_iadd hz dX0_weigh_6 ?_
    refine r_i2l hz dX0_weigh_7 ?_
    refine r_callSNl (As := fun _ => [.long (100 : Int64), .long (((100 : Int32) + p2)).toInt64]) (host := "DrawnBonds") hz (fun _ _ h => t_X7_commonDivisor _ _ _ _ _ h) cal_X7_commonDivisor dX0_weigh_8 (List.mem_of_getElem? (i := 14) rfl) wm_4_92 rfl rfl (Nat.le_of_ble_eq_true rfl) ⟨(Nat.le_of_ble_eq_true rfl), (Nat.le_of_ble_eq_true rfl)⟩ ⟨(Nat.le_of_ble_eq_true rfl), (Nat.le_of_ble_eq_true rfl)⟩ (fun v2 M1 => ?_)
    refine r_lstore_n (lv' := [(3, .long v2), (0, .ref p0), (1, .ref p1), (2, .int p2)]) hz dX0_weigh_11 (by decide) rfl ?_
    refine r_lload_n hz dX0_weigh_12 0 rfl ?_
    refine r_lconst (v := 0) hz dX0_weigh_13 rfl ?_
    refine r_lcmp_gt (tgt := 20) hz dX0_weigh_14 dX0_weigh_15 rfl ?_ ?_
    · refine r_ldc2 (v := 100) hz dX0_weigh_20 wm_4_102 ?_
      refine r_lload_n hz dX0_weigh_23 0 rfl ?_
      refine r_ldiv hz dX0_weigh_24 ?_
      refine r_nml (fun v3 => ?_)
      refine r_lstore (lv' := [(5, .long v3), (3, .long v2), (0, .ref p0), (1, .ref p1), (2, .int p2)]) hz dX0_weigh_25 (by decide) rfl ?_
      refine r_bipush (v := 100) hz dX0_weigh_27 rfl ?_
      refine r_iload_n hz dX0_weigh_29 4 rfl ?_
      refine r_iadd hz dX0_weigh_30 ?_
      refine r_i2l hz dX0_weigh_31 ?_
      refine r_lload_n hz dX0_weigh_32 1 rfl ?_
      refine r_ldiv hz dX0_weigh_33 ?_
      refine r_nml (fun v4 => ?_)
      refine r_lstore (lv' := [(7, .long v4), (5, .long v3), (3, .long v2), (0, .ref p0), (1, .ref p1), (2, .int p2)]) hz dX0_weigh_34 (by decide) rfl ?_
      refine r_aload_n hz dX0_weigh_36 3 rfl ?_
      refine r_aload_n hz dX0_weigh_37 4 rfl ?_
      refine r_getI (j := 10) cl4 hz dX0_weigh_38 (by decide) wm_2_8 rfl ?_
      refine r_i2l hz dX0_weigh_41 ?_
      refine r_putL (j := 1) cl0 hz dX0_weigh_42 (by decide) wm_2_82 (Or.inl rfl) rfl rfl rfl ?_
      refine r_nmM (fun M5 => ?_)
      refine r_aload_n hz dX0_weigh_45 4 rfl ?_
      refine r_getI (j := 8) cl4 hz dX0_weigh_46 (by decide) wm_2_2 rfl ?_
      refine r_nmi (fun v6 => ?_)
      refine r_istore (lv' := [(9, .int v6), (7, .long v4), (5, .long v3), (3, .long v2), (0, .ref p0), (1, .ref p1), (2, .int p2)]) hz dX0_weigh_49 (by decide) rfl ?_
      refine r_sub [4, 5, 2, 1, 0] rfl ?_
      exact s_X0_weigh_51 hz hq FU p0 p1 v3 v4 v6 M5
    · refine r_iconst (v := 0) hz dX0_weigh_18 rfl ?_
      exact r_zret hz hq dX0_weigh_19 (Or.inl rfl) (Nat.le_of_ble_eq_true rfl) (Nat.le_of_ble_eq_true rfl)
  exact key x M' h ⟨rfl, rfl⟩
theorem dX0_reaches_0 : decode cX0_reaches 0 = .ok (.aload_n 0, 1) := by decide +kernel
theorem dX0_reaches_1 : decode cX0_reaches 1 = .ok (.getfield 15, 3) := by decide +kernel
theorem dX0_reaches_4 : decode cX0_reaches 4 = .ok (.lconst 0, 1) := by decide +kernel
theorem dX0_reaches_5 : decode cX0_reaches 5 = .ok (.lcmp, 1) := by decide +kernel
theorem dX0_reaches_6 : decode cX0_reaches 6 = .ok (.ifCond .le 22, 3) := by decide +kernel
theorem dX0_reaches_9 : decode cX0_reaches 9 = .ok (.aload_n 0, 1) := by decide +kernel
theorem dX0_reaches_10 : decode cX0_reaches 10 = .ok (.getfield 9, 3) := by decide +kernel
theorem dX0_reaches_13 : decode cX0_reaches 13 = .ok (.aload_n 0, 1) := by decide +kernel
theorem dX0_reaches_14 : decode cX0_reaches 14 = .ok (.getfield 15, 3) := by decide +kernel
theorem dX0_reaches_17 : decode cX0_reaches 17 = .ok (.ldiv, 1) := by decide +kernel
theorem dX0_reaches_18 : decode cX0_reaches 18 = .ok (.iload_n 1, 1) := by decide +kernel
theorem dX0_reaches_19 : decode cX0_reaches 19 = .ok (.i2l, 1) := by decide +kernel
theorem dX0_reaches_20 : decode cX0_reaches 20 = .ok (.lcmp, 1) := by decide +kernel
theorem dX0_reaches_21 : decode cX0_reaches 21 = .ok (.ifCond .lt 7, 3) := by decide +kernel
theorem dX0_reaches_24 : decode cX0_reaches 24 = .ok (.iconst 1, 1) := by decide +kernel
theorem dX0_reaches_25 : decode cX0_reaches 25 = .ok (.goto 4, 3) := by decide +kernel
theorem dX0_reaches_28 : decode cX0_reaches 28 = .ok (.iconst 0, 1) := by decide +kernel
theorem dX0_reaches_29 : decode cX0_reaches 29 = .ok (.ireturn, 1) := by decide +kernel
abbrev rX0_reaches : Room := { frames := 0, cells := 0, slots := 0, locals := 0 }
theorem cal_X0_reaches : CalOk yX0_reaches cX0_reaches 2 (some .boolean) 1 := ⟨wm_4_133, wm_1_7, by decide, by decide, by decide +kernel⟩
def f_X0_reaches (p0 : Nat) (p1 : Int32) (M : Mm) : Option (Int32 × Mm) :=
  ck (gK M p0 = 0) ((if (gL M p0 1) ≤ (0 : Int64) then
    some ((0 : Int32), M)
  else
    ck (gK M p0 = 0) (ck (gK M p0 = 0) (ck (¬ (gL M p0 1) = 0) ((if ((gL M p0 0) / (gL M p0 1)) < (p1).toInt64 then
      some ((0 : Int32), M)
    else
      some ((1 : Int32), M)))))))
set_option maxRecDepth 20000 in
set_option maxHeartbeats 4000000 in
theorem t_X0_reaches (p0 : Nat) (p1 : Int32) (M : Mm) (x : Int32) (M' : Mm) (h : f_X0_reaches p0 p1 M = some (x, M')) : Ctr yX0_reaches cX0_reaches 2 (some .boolean) rX0_reaches (fun _ => [.ref p0, .int p1]) M (zI x) M' := by
  refine ctr_of (plainFor_of_name (by decide)) (fun _ => Nat.le_of_ble_eq_true rfl) (fun z hz hin hq => ?_)
  have key : Sim z 0 [(0, .ref p0), (1, .int p1)] [] M 0 0 (f_X0_reaches p0 p1 M) (fun a b => a = x ∧ b = M') := by
    have hq : Ret z zI (fun a b => a = x ∧ b = M') := fun a b e => by rw [e.1, e.2]; exact hq
    unfold f_X0_reaches
    refine r_aload_n hz dX0_reaches_0 0 rfl ?_
    refine r_getL (j := 1) cl0 hz dX0_reaches_1 (by decide) wm_2_82 rfl ?_
    refine r_lconst (v := 0) hz dX0_reaches_4 rfl ?_
    refine r_lcmp_le (tgt := 28) hz dX0_reaches_5 dX0_reaches_6 rfl ?_ ?_
    · refine r_iconst (v := 0) hz dX0_reaches_28 rfl ?_
      exact r_zret hz hq dX0_reaches_29 (Or.inl rfl) (Nat.le_of_ble_eq_true rfl) (Nat.le_of_ble_eq_true rfl)
    · refine r_aload_n hz dX0_reaches_9 0 rfl ?_
      refine r_getL (j := 0) cl0 hz dX0_reaches_10 (by decide) wm_2_80 rfl ?_
      refine r_aload_n hz dX0_reaches_13 0 rfl ?_
      refine r_getL (j := 1) cl0 hz dX0_reaches_14 (by decide) wm_2_82 rfl ?_
      refine r_ldiv hz dX0_reaches_17 ?_
      refine r_iload_n hz dX0_reaches_18 1 rfl ?_
      refine r_i2l hz dX0_reaches_19 ?_
      refine r_lcmp_lt (tgt := 28) hz dX0_reaches_20 dX0_reaches_21 rfl ?_ ?_
      · refine r_iconst (v := 0) hz dX0_reaches_28 rfl ?_
        exact r_zret hz hq dX0_reaches_29 (Or.inl rfl) (Nat.le_of_ble_eq_true rfl) (Nat.le_of_ble_eq_true rfl)
      · refine r_iconst (v := 1) hz dX0_reaches_24 rfl ?_
        refine r_goto (tgt := 29) hz dX0_reaches_25 rfl ?_
        exact r_zret hz hq dX0_reaches_29 (Or.inr rfl) (Nat.le_of_ble_eq_true rfl) (Nat.le_of_ble_eq_true rfl)
  exact key x M' h ⟨rfl, rfl⟩
theorem dX1_init_0 : decode cX1_init 0 = .ok (.aload_n 0, 1) := by decide +kernel
theorem dX1_init_1 : decode cX1_init 1 = .ok (.invokespecial 3, 3) := by decide +kernel
theorem dX1_init_4 : decode cX1_init 4 = .ok (.aload_n 0, 1) := by decide +kernel
theorem dX1_init_5 : decode cX1_init 5 = .ok (.bipush 60, 2) := by decide +kernel
theorem dX1_init_7 : decode cX1_init 7 = .ok (.newarray .int, 2) := by decide +kernel
theorem dX1_init_9 : decode cX1_init 9 = .ok (.putfield 9, 3) := by decide +kernel
theorem dX1_init_12 : decode cX1_init 12 = .ok (.aload_n 0, 1) := by decide +kernel
theorem dX1_init_13 : decode cX1_init 13 = .ok (.iconst 0, 1) := by decide +kernel
theorem dX1_init_14 : decode cX1_init 14 = .ok (.putfield 15, 3) := by decide +kernel
theorem dX1_init_17 : decode cX1_init 17 = .ok (.aload_n 0, 1) := by decide +kernel
theorem dX1_init_18 : decode cX1_init 18 = .ok (.iconst 0, 1) := by decide +kernel
theorem dX1_init_19 : decode cX1_init 19 = .ok (.putfield 19, 3) := by decide +kernel
theorem dX1_init_22 : decode cX1_init 22 = .ok (.return_, 1) := by decide +kernel
abbrev rX1_init : Room := { frames := 1, cells := 1, slots := 60, locals := 20 }
theorem cal_X1_init : CalOk yX1_init cX1_init 1 none 0 := ⟨wm_2_61, wm_1_6, by decide, by decide, by decide +kernel⟩
def f_X1_init (p0 : Nat) (M : Mm) : Option (Unit × Mm) :=
  nm (gT M) fun q1 => nm (sN M 10 60) fun M2 =>
  ck (gK M2 p0 = 1) (nm (sR M2 p0 0 (some q1)) fun M3 =>
  ck (gK M3 p0 = 1) (nm (sI M3 p0 1 (0 : Int32)) fun M4 =>
  ck (gK M4 p0 = 1) (nm (sI M4 p0 2 (0 : Int32)) fun M5 =>
  some ((), M5))))
set_option maxRecDepth 20000 in
set_option maxHeartbeats 4000000 in
theorem t_X1_init (p0 : Nat) (M : Mm) (x : Unit) (M' : Mm) (h : f_X1_init p0 M = some (x, M')) : Ctr yX1_init cX1_init 1 none rX1_init (fun _ => [.ref p0]) M (zU x) M' := by
  refine ctr_of (plainFor_of_name (by decide)) (fun _ => Nat.le_of_ble_eq_true rfl) (fun z hz hin hq => ?_)
  have key : Sim z 0 [(0, .ref p0)] [] M 0 0 (f_X1_init p0 M) (fun a b => a = x ∧ b = M') := by
    have hq : Ret z zU (fun a b => a = x ∧ b = M') := fun a b e => by rw [e.1, e.2]; exact hq
    have hin := hin rfl
    unfold f_X1_init
    refine r_aload_n hz dX1_init_0 0 rfl ?_
    refine r_objInit hz dX1_init_1 wm_2_62 wm_1_27 wm_1_28 (Nat.le_of_ble_eq_true rfl) (Nat.le_of_ble_eq_true rfl) ?_
    refine r_aload_n hz dX1_init_4 0 rfl ?_
    refine r_bipush (v := 60) hz dX1_init_5 rfl ?_
    refine r_newI (len := 60) hz dX1_init_7 wm_1_133 rfl (by decide) (Nat.le_of_ble_eq_true rfl) (Nat.le_of_ble_eq_true rfl) (Nat.le_of_ble_eq_true rfl) ?_
    refine r_nma (fun q1 => ?_)
    refine r_nmM (fun M2 => ?_)
    refine r_putR (j := 0) cl1 hz dX1_init_9 (by decide) wm_2_63 (Or.inr ⟨rfl, hin⟩) rfl rfl rfl ?_
    refine r_nmM (fun M3 => ?_)
    refine r_aload_n hz dX1_init_12 0 rfl ?_
    refine r_iconst (v := 0) hz dX1_init_13 rfl ?_
    refine r_putI (j := 1) cl1 hz dX1_init_14 (by decide) wm_2_64 (Or.inl rfl) rfl rfl rfl ?_
    refine r_nmM (fun M4 => ?_)
    refine r_aload_n hz dX1_init_17 0 rfl ?_
    refine r_iconst (v := 0) hz dX1_init_18 rfl ?_
    refine r_putI (j := 2) cl1 hz dX1_init_19 (by decide) wm_2_65 (Or.inl rfl) rfl rfl rfl ?_
    refine r_nmM (fun M5 => ?_)
    exact r_vret hz hq dX1_init_22 (Nat.le_of_ble_eq_true rfl) (Nat.le_of_ble_eq_true rfl)
  exact key x M' h ⟨rfl, rfl⟩
theorem dX7_spotOf_0 : decode cX7_spotOf 0 = .ok (.iload_n 0, 1) := by decide +kernel
theorem dX7_spotOf_1 : decode cX7_spotOf 1 = .ok (.bipush 60, 2) := by decide +kernel
theorem dX7_spotOf_3 : decode cX7_spotOf 3 = .ok (.imul, 1) := by decide +kernel
theorem dX7_spotOf_4 : decode cX7_spotOf 4 = .ok (.iload_n 1, 1) := by decide +kernel
theorem dX7_spotOf_5 : decode cX7_spotOf 5 = .ok (.iadd, 1) := by decide +kernel
theorem dX7_spotOf_6 : decode cX7_spotOf 6 = .ok (.iconst 1, 1) := by decide +kernel
theorem dX7_spotOf_7 : decode cX7_spotOf 7 = .ok (.isub, 1) := by decide +kernel
theorem dX7_spotOf_8 : decode cX7_spotOf 8 = .ok (.ireturn, 1) := by decide +kernel
abbrev rX7_spotOf : Room := { frames := 0, cells := 0, slots := 0, locals := 0 }
theorem cal_X7_spotOf : CalOk yX7_spotOf cX7_spotOf 2 (some .int) 2 := ⟨wm_3_79, wm_1_1, by decide, by decide, by decide +kernel⟩
def f_X7_spotOf (p0 : Int32) (p1 : Int32) (M : Mm) : Option (Int32 × Mm) :=
  some ((((p0 * (60 : Int32)) + p1) - (1 : Int32)), M)
set_option maxRecDepth 20000 in
set_option maxHeartbeats 4000000 in
theorem t_X7_spotOf (p0 : Int32) (p1 : Int32) (M : Mm) (x : Int32) (M' : Mm) (h : f_X7_spotOf p0 p1 M = some (x, M')) : Ctr yX7_spotOf cX7_spotOf 2 (some .int) rX7_spotOf (fun _ => [.int p0, .int p1]) M (zI x) M' := by
  refine ctr_of (plainFor_of_name (by decide)) (fun _ => Nat.le_of_ble_eq_true rfl) (fun z hz hin hq => ?_)
  have key : Sim z 0 [(0, .int p0), (1, .int p1)] [] M 0 0 (f_X7_spotOf p0 p1 M) (fun a b => a = x ∧ b = M') := by
    have hq : Ret z zI (fun a b => a = x ∧ b = M') := fun a b e => by rw [e.1, e.2]; exact hq
    unfold f_X7_spotOf
    refine r_iload_n hz dX7_spotOf_0 0 rfl ?_
    refine r_bipush (v := 60) hz dX7_spotOf_1 rfl ?_
    refine r_imul hz dX7_spotOf_3 ?_
    refine r_iload_n hz dX7_spotOf_4 1 rfl ?_
    refine r_iadd hz dX7_spotOf_5 ?_
    refine r_iconst (v := 1) hz dX7_spotOf_6 rfl ?_
    refine r_isub hz dX7_spotOf_7 ?_
    exact r_iret hz hq dX7_spotOf_8 (Nat.le_of_ble_eq_true rfl) (Nat.le_of_ble_eq_true rfl)
  exact key x M' h ⟨rfl, rfl⟩
theorem dX1_load_0 : decode cX1_load 0 = .ok (.aload_n 0, 1) := by decide +kernel
theorem dX1_load_1 : decode cX1_load 1 = .ok (.iload 5, 2) := by decide +kernel
theorem dX1_load_3 : decode cX1_load 3 = .ok (.putfield 19, 3) := by decide +kernel
theorem dX1_load_6 : decode cX1_load 6 = .ok (.aload_n 0, 1) := by decide +kernel
theorem dX1_load_7 : decode cX1_load 7 = .ok (.iconst 0, 1) := by decide +kernel
theorem dX1_load_8 : decode cX1_load 8 = .ok (.putfield 15, 3) := by decide +kernel
theorem dX1_load_11 : decode cX1_load 11 = .ok (.iconst 1, 1) := by decide +kernel
theorem dX1_load_12 : decode cX1_load 12 = .ok (.istore 6, 2) := by decide +kernel
theorem dX1_load_14 : decode cX1_load 14 = .ok (.iload 6, 2) := by decide +kernel
theorem dX1_load_16 : decode cX1_load 16 = .ok (.aload_n 1, 1) := by decide +kernel
theorem dX1_load_17 : decode cX1_load 17 = .ok (.getfield 22, 3) := by decide +kernel
theorem dX1_load_20 : decode cX1_load 20 = .ok (.iload_n 3, 1) := by decide +kernel
theorem dX1_load_21 : decode cX1_load 21 = .ok (.iaload, 1) := by decide +kernel
theorem dX1_load_22 : decode cX1_load 22 = .ok (.if_icmp .gt 64, 3) := by decide +kernel
theorem dX1_load_25 : decode cX1_load 25 = .ok (.aload_n 2, 1) := by decide +kernel
theorem dX1_load_26 : decode cX1_load 26 = .ok (.getfield 27, 3) := by decide +kernel
theorem dX1_load_29 : decode cX1_load 29 = .ok (.iload_n 3, 1) := by decide +kernel
theorem dX1_load_30 : decode cX1_load 30 = .ok (.iload 6, 2) := by decide +kernel
theorem dX1_load_32 : decode cX1_load 32 = .ok (.invokestatic 32, 3) := by decide +kernel
theorem dX1_load_35 : decode cX1_load 35 = .ok (.iaload, 1) := by decide +kernel
theorem dX1_load_36 : decode cX1_load 36 = .ok (.istore 7, 2) := by decide +kernel
theorem dX1_load_38 : decode cX1_load 38 = .ok (.aload_n 0, 1) := by decide +kernel
theorem dX1_load_39 : decode cX1_load 39 = .ok (.getfield 15, 3) := by decide +kernel
theorem dX1_load_42 : decode cX1_load 42 = .ok (.bipush 60, 2) := by decide +kernel
theorem dX1_load_44 : decode cX1_load 44 = .ok (.if_icmp .ge 36, 3) := by decide +kernel
theorem dX1_load_47 : decode cX1_load 47 = .ok (.iload 7, 2) := by decide +kernel
theorem dX1_load_49 : decode cX1_load 49 = .ok (.ifCond .eq 10, 3) := by decide +kernel
theorem dX1_load_52 : decode cX1_load 52 = .ok (.iload 7, 2) := by decide +kernel
theorem dX1_load_54 : decode cX1_load 54 = .ok (.iload 4, 2) := by decide +kernel
theorem dX1_load_56 : decode cX1_load 56 = .ok (.if_icmp .lt 24, 3) := by decide +kernel
theorem dX1_load_59 : decode cX1_load 59 = .ok (.aload_n 0, 1) := by decide +kernel
theorem dX1_load_60 : decode cX1_load 60 = .ok (.getfield 9, 3) := by decide +kernel
theorem dX1_load_63 : decode cX1_load 63 = .ok (.aload_n 0, 1) := by decide +kernel
theorem dX1_load_64 : decode cX1_load 64 = .ok (.getfield 15, 3) := by decide +kernel
theorem dX1_load_67 : decode cX1_load 67 = .ok (.iload 6, 2) := by decide +kernel
theorem dX1_load_69 : decode cX1_load 69 = .ok (.iastore, 1) := by decide +kernel
theorem dX1_load_70 : decode cX1_load 70 = .ok (.aload_n 0, 1) := by decide +kernel
theorem dX1_load_71 : decode cX1_load 71 = .ok (.dup, 1) := by decide +kernel
theorem dX1_load_72 : decode cX1_load 72 = .ok (.getfield 15, 3) := by decide +kernel
theorem dX1_load_75 : decode cX1_load 75 = .ok (.iconst 1, 1) := by decide +kernel
theorem dX1_load_76 : decode cX1_load 76 = .ok (.iadd, 1) := by decide +kernel
theorem dX1_load_77 : decode cX1_load 77 = .ok (.putfield 15, 3) := by decide +kernel
theorem dX1_load_80 : decode cX1_load 80 = .ok (.iinc 6 1, 3) := by decide +kernel
theorem dX1_load_83 : decode cX1_load 83 = .ok (.goto (-69), 3) := by decide +kernel
theorem dX1_load_86 : decode cX1_load 86 = .ok (.return_, 1) := by decide +kernel
abbrev rX1_load : Room := { frames := 1, cells := 0, slots := 0, locals := 21 }
theorem cal_X1_load : CalOk yX1_load cX1_load 8 none 5 := ⟨wm_4_9, wm_1_6, by decide, by decide, by decide +kernel⟩
def f_X1_load_59 (r14 : Nat → Nat → Nat → Int32 → Int32 → Int32 → Mm → Option (Unit × Mm)) (x0 : Nat) (x1 : Nat) (x2 : Nat) (x3 : Int32) (x4 : Int32) (x6 : Int32) (M : Mm) : Option (Unit × Mm) :=
  ck (gK M x0 = 1) (bR (gR M x0 0) fun q1 => ck (gK M x0 = 1) (ck (gK M q1 = 10 ∧ inb (gI M x0 1) (gN M q1)) (nm (sI M q1 ((gI M x0 1)).toNatClampNeg x6) fun M2 =>
  ck (gK M2 x0 = 1) (ck (gK M2 x0 = 1) (nm (sI M2 x0 1 ((gI M2 x0 1) + (1 : Int32))) fun M3 =>
  r14 x0 x1 x2 x3 x4 (x6 + (1 : Int32)) M3)))))
set_option maxRecDepth 20000 in
set_option maxHeartbeats 4000000 in
theorem s_X1_load_59 {z : Zt} {K : Unit → Mm → Prop} (hz : Good z RX1 cX1_load 8 rX1_load none) (hq : Ret z zU K) {r14 : Nat → Nat → Nat → Int32 → Int32 → Int32 → Mm → Option (Unit × Mm)} (H14 : ∀ (x0 : Nat) (x1 : Nat) (x2 : Nat) (x3 : Int32) (x4 : Int32) (x6 : Int32) (M : Mm), Sim z 14 [(0, .ref x0), (1, .ref x1), (2, .ref x2), (3, .int x3), (4, .int x4), (6, .int x6)] [] M 0 0 (r14 x0 x1 x2 x3 x4 x6 M) K) : ∀ (x0 : Nat) (x1 : Nat) (x2 : Nat) (x3 : Int32) (x4 : Int32) (x6 : Int32) (M : Mm), Sim z 59 [(0, .ref x0), (1, .ref x1), (2, .ref x2), (3, .int x3), (4, .int x4), (6, .int x6)] [] M 0 0 (f_X1_load_59 r14 x0 x1 x2 x3 x4 x6 M) K := by
  intro x0 x1 x2 x3 x4 x6 M
  unfold f_X1_load_59
  refine r_aload_n hz dX1_load_59 0 rfl ?_
  refine r_getR (j := 0) cl1 hz dX1_load_60 (by decide) wm_2_63 rfl (fun q1 => ?_)
  refine r_aload_n hz dX1_load_63 0 rfl ?_
  refine r_getI (j := 1) cl1 hz dX1_load_64 (by decide) wm_2_64 rfl ?_
  refine r_iload hz dX1_load_67 5 rfl ?_
  refine r_iast hz dX1_load_69 ?_
  refine r_nmM (fun M2 => ?_)
  refine r_aload_n hz dX1_load_70 0 rfl ?_
  refine r_dup hz dX1_load_71 rfl ?_
  refine r_getI (j := 1) cl1 hz dX1_load_72 (by decide) wm_2_64 rfl ?_
  refine r_iconst (v := 1) hz dX1_load_75 rfl ?_
  refine r_iadd hz dX1_load_76 ?_
  refine r_putI (j := 1) cl1 hz dX1_load_77 (by decide) wm_2_64 (Or.inl rfl) rfl rfl rfl ?_
  refine r_nmM (fun M3 => ?_)
  refine r_iinc (v := (x6 + (1 : Int32))) (lv' := [(6, .int (x6 + (1 : Int32))), (0, .ref x0), (1, .ref x1), (2, .ref x2), (3, .int x3), (4, .int x4)]) hz dX1_load_80 5 rfl rfl (by decide) rfl ?_
  refine r_goto (tgt := 14) hz dX1_load_83 rfl ?_
  refine r_sub [1, 2, 3, 4, 5, 0] rfl ?_
  exact H14 x0 x1 x2 x3 x4 (x6 + (1 : Int32)) M3
def f_X1_load_14 : Nat → Nat → Nat → Nat → Int32 → Int32 → Int32 → Mm → Option (Unit × Mm)
  | 0, _, _, _, _, _, _, _ => none
  | n + 1, x0, x1, x2, x3, x4, x6, M =>
    ck (gK M x1 = 6) (bR (gR M x1 6) fun q1 => ck (gK M q1 = 10 ∧ inb x3 (gN M q1)) ((if (gI M q1 (x3).toNatClampNeg) < x6 then
      some ((), M)
    else
      ck (gK M x2 = 5) (bR (gR M x2 8) fun q2 => bd (f_X7_spotOf x3 x6 M) fun v4 M3 =>
      ck (gK M3 q2 = 10 ∧ inb v4 (gN M3 q2)) (nm (gI M3 q2 (v4).toNatClampNeg) fun v5 =>
      ck (gK M3 x0 = 1) ((if (60 : Int32) ≤ (gI M3 x0 1) then
        f_X1_load_14 n x0 x1 x2 x3 x4 (x6 + (1 : Int32)) M3
      else
        (if v5 = 0 then
          f_X1_load_59 (f_X1_load_14 n) x0 x1 x2 x3 x4 x6 M3
        else
          (if v5 < x4 then
            f_X1_load_14 n x0 x1 x2 x3 x4 (x6 + (1 : Int32)) M3
          else
            f_X1_load_59 (f_X1_load_14 n) x0 x1 x2 x3 x4 x6 M3)))))))))
set_option maxRecDepth 20000 in
set_option maxHeartbeats 4000000 in
theorem s_X1_load_14 {z : Zt} {K : Unit → Mm → Prop} (hz : Good z RX1 cX1_load 8 rX1_load none) (hq : Ret z zU K) : ∀ (n : Nat) (x0 : Nat) (x1 : Nat) (x2 : Nat) (x3 : Int32) (x4 : Int32) (x6 : Int32) (M : Mm), Sim z 14 [(0, .ref x0), (1, .ref x1), (2, .ref x2), (3, .int x3), (4, .int x4), (6, .int x6)] [] M 0 0 (f_X1_load_14 n x0 x1 x2 x3 x4 x6 M) K := by
  intro n
  induction n with
  | zero => exact fun _ _ _ _ _ _ _ => r_none
  | succ n ih =>
    intro x0 x1 x2 x3 x4 x6 M
    unfold f_X1_load_14
    refine r_iload hz dX1_load_14 5 rfl ?_
    refine r_aload_n hz dX1_load_16 1 rfl ?_
    refine r_getR (j := 6) cl6 hz dX1_load_17 (by decide) wm_1_52 rfl (fun q1 => ?_)
    refine r_iload_n hz dX1_load_20 3 rfl ?_
    refine r_iald hz dX1_load_21 ?_
    refine r_icmp_gt (tgt := 86) hz dX1_load_22 rfl ?_ ?_
    · exact r_vret hz hq dX1_load_86 (Nat.le_of_ble_eq_true rfl) (Nat.le_of_ble_eq_true rfl)
    · refine r_aload_n hz dX1_load_25 2 rfl ?_
      refine r_getR (j := 8) cl5 hz dX1_load_26 (by decide) wm_1_162 rfl (fun q2 => ?_)
      refine r_iload_n hz dX1_load_29 3 rfl ?_
      refine r_iload hz dX1_load_30 5 rfl ?_
      refine r_callSNi (As := fun _ => [.int x3, .int x6]) (host := "DrawnBonds") hz (fun _ _ h => t_X7_spotOf _ _ _ _ _ h) cal_X7_spotOf dX1_load_32 (List.mem_of_getElem? (i := 13) rfl) wm_3_78 rfl rfl (Nat.le_of_ble_eq_true rfl) ⟨(Nat.le_of_ble_eq_true rfl), (Nat.le_of_ble_eq_true rfl)⟩ ⟨(Nat.le_of_ble_eq_true rfl), (Nat.le_of_ble_eq_true rfl)⟩ (fun v4 M3 => ?_)
      refine r_iald hz dX1_load_35 ?_
      refine r_nmi (fun v5 => ?_)
      refine r_istore (lv' := [(7, .int v5), (0, .ref x0), (1, .ref x1), (2, .ref x2), (3, .int x3), (4, .int x4), (6, .int x6)]) hz dX1_load_36 (by decide) rfl ?_
      refine r_aload_n hz dX1_load_38 1 rfl ?_
      refine r_getI (j := 1) cl1 hz dX1_load_39 (by decide) wm_2_64 rfl ?_
      refine r_bipush (v := 60) hz dX1_load_42 rfl ?_
      refine r_icmp_ge (tgt := 80) hz dX1_load_44 rfl ?_ ?_
      · refine r_iinc (v := (x6 + (1 : Int32))) (lv' := [(6, .int (x6 + (1 : Int32))), (7, .int v5), (0, .ref x0), (1, .ref x1), (2, .ref x2), (3, .int x3), (4, .int x4)]) hz dX1_load_80 6 rfl rfl (by decide) rfl ?_
        refine r_goto (tgt := 14) hz dX1_load_83 rfl ?_
        refine r_sub [2, 3, 4, 5, 6, 0] rfl ?_
        exact ih x0 x1 x2 x3 x4 (x6 + (1 : Int32)) M3
      · refine r_iload hz dX1_load_47 0 rfl ?_
        refine r_if_eq (tgt := 59) hz dX1_load_49 rfl ?_ ?_
        · refine r_sub [1, 2, 3, 4, 5, 6] rfl ?_
          exact s_X1_load_59 hz hq ih x0 x1 x2 x3 x4 x6 M3
        · refine r_iload hz dX1_load_52 0 rfl ?_
          refine r_iload hz dX1_load_54 5 rfl ?_
          refine r_icmp_lt (tgt := 80) hz dX1_load_56 rfl ?_ ?_
          · refine r_iinc (v := (x6 + (1 : Int32))) (lv' := [(6, .int (x6 + (1 : Int32))), (7, .int v5), (0, .ref x0), (1, .ref x1), (2, .ref x2), (3, .int x3), (4, .int x4)]) hz dX1_load_80 6 rfl rfl (by decide) rfl ?_
            refine r_goto (tgt := 14) hz dX1_load_83 rfl ?_
            refine r_sub [2, 3, 4, 5, 6, 0] rfl ?_
            exact ih x0 x1 x2 x3 x4 (x6 + (1 : Int32)) M3
          · refine r_sub [1, 2, 3, 4, 5, 6] rfl ?_
            exact s_X1_load_59 hz hq ih x0 x1 x2 x3 x4 x6 M3
def f_X1_load (p0 : Nat) (p1 : Nat) (p2 : Nat) (p3 : Int32) (p4 : Int32) (p5 : Int32) (M : Mm) : Option (Unit × Mm) :=
  ck (gK M p0 = 1) (nm (sI M p0 2 p5) fun M1 =>
  ck (gK M1 p0 = 1) (nm (sI M1 p0 1 (0 : Int32)) fun M2 =>
  f_X1_load_14 FU p0 p1 p2 p3 p4 (1 : Int32) M2))
set_option maxRecDepth 20000 in
set_option maxHeartbeats 4000000 in
theorem t_X1_load (p0 : Nat) (p1 : Nat) (p2 : Nat) (p3 : Int32) (p4 : Int32) (p5 : Int32) (M : Mm) (x : Unit) (M' : Mm) (h : f_X1_load p0 p1 p2 p3 p4 p5 M = some (x, M')) : Ctr yX1_load cX1_load 8 none rX1_load (fun _ => [.ref p0, .ref p1, .ref p2, .int p3, .int p4, .int p5]) M (zU x) M' := by
  refine ctr_of (plainFor_of_name (by decide)) (fun _ => Nat.le_of_ble_eq_true rfl) (fun z hz hin hq => ?_)
  have key : Sim z 0 [(0, .ref p0), (1, .ref p1), (2, .ref p2), (3, .int p3), (4, .int p4), (5, .int p5)] [] M 0 0 (f_X1_load p0 p1 p2 p3 p4 p5 M) (fun a b => a = x ∧ b = M') := by
    have hq : Ret z zU (fun a b => a = x ∧ b = M') := fun a b e => by rw [e.1, e.2]; exact hq
    unfold f_X1_load
    refine r_aload_n hz dX1_load_0 0 rfl ?_
    refine r_iload hz dX1_load_1 5 rfl ?_
    refine r_putI (j := 2) cl1 hz dX1_load_3 (by decide) wm_2_65 (Or.inl rfl) rfl rfl rfl ?_
    refine r_nmM (fun M1 => ?_)
    refine r_aload_n hz dX1_load_6 0 rfl ?_
    refine r_iconst (v := 0) hz dX1_load_7 rfl ?_
    refine r_putI (j := 1) cl1 hz dX1_load_8 (by decide) wm_2_64 (Or.inl rfl) rfl rfl rfl ?_
    refine r_nmM (fun M2 => ?_)
    refine r_iconst (v := 1) hz dX1_load_11 rfl ?_
    refine r_istore (lv' := [(6, .int (1 : Int32)), (0, .ref p0), (1, .ref p1), (2, .ref p2), (3, .int p3), (4, .int p4), (5, .int p5)]) hz dX1_load_12 (by decide) rfl ?_
    refine r_sub [1, 2, 3, 4, 5, 0] rfl ?_
    exact s_X1_load_14 hz hq FU p0 p1 p2 p3 p4 (1 : Int32) M2
  exact key x M' h ⟨rfl, rfl⟩
theorem dJ9_floorMod_7cf53_0 : decode cJ9_floorMod_7cf53 0 = .ok (.iload_n 0, 1) := by decide +kernel
theorem dJ9_floorMod_7cf53_1 : decode cJ9_floorMod_7cf53 1 = .ok (.iload_n 1, 1) := by decide +kernel
theorem dJ9_floorMod_7cf53_2 : decode cJ9_floorMod_7cf53 2 = .ok (.irem, 1) := by decide +kernel
theorem dJ9_floorMod_7cf53_3 : decode cJ9_floorMod_7cf53 3 = .ok (.istore_n 2, 1) := by decide +kernel
theorem dJ9_floorMod_7cf53_4 : decode cJ9_floorMod_7cf53 4 = .ok (.iload_n 0, 1) := by decide +kernel
theorem dJ9_floorMod_7cf53_5 : decode cJ9_floorMod_7cf53 5 = .ok (.iload_n 1, 1) := by decide +kernel
theorem dJ9_floorMod_7cf53_6 : decode cJ9_floorMod_7cf53 6 = .ok (.ixor, 1) := by decide +kernel
theorem dJ9_floorMod_7cf53_7 : decode cJ9_floorMod_7cf53 7 = .ok (.ifCond .ge 11, 3) := by decide +kernel
theorem dJ9_floorMod_7cf53_10 : decode cJ9_floorMod_7cf53 10 = .ok (.iload_n 2, 1) := by decide +kernel
theorem dJ9_floorMod_7cf53_11 : decode cJ9_floorMod_7cf53 11 = .ok (.ifCond .eq 7, 3) := by decide +kernel
theorem dJ9_floorMod_7cf53_14 : decode cJ9_floorMod_7cf53 14 = .ok (.iload_n 2, 1) := by decide +kernel
theorem dJ9_floorMod_7cf53_15 : decode cJ9_floorMod_7cf53 15 = .ok (.iload_n 1, 1) := by decide +kernel
theorem dJ9_floorMod_7cf53_16 : decode cJ9_floorMod_7cf53 16 = .ok (.iadd, 1) := by decide +kernel
theorem dJ9_floorMod_7cf53_17 : decode cJ9_floorMod_7cf53 17 = .ok (.ireturn, 1) := by decide +kernel
theorem dJ9_floorMod_7cf53_18 : decode cJ9_floorMod_7cf53 18 = .ok (.iload_n 2, 1) := by decide +kernel
theorem dJ9_floorMod_7cf53_19 : decode cJ9_floorMod_7cf53 19 = .ok (.ireturn, 1) := by decide +kernel
abbrev rJ9_floorMod_7cf53 : Room := { frames := 0, cells := 0, slots := 0, locals := 0 }
theorem cal_J9_floorMod_7cf53 : CalOk yJ9_floorMod_7cf53 cJ9_floorMod_7cf53 3 (some .int) 2 := ⟨wm_4_19, wm_1_11, by decide, by decide, by decide +kernel⟩
def f_J9_floorMod_7cf53 (p0 : Int32) (p1 : Int32) (M : Mm) : Option (Int32 × Mm) :=
  ck (¬ p1 = 0) (nm (p0 - p0 / p1 * p1) fun v1 =>
  (if 0 ≤ (p0 ^^^ p1) then
    some (v1, M)
  else
    (if v1 = 0 then
      some (v1, M)
    else
      some ((v1 + p1), M))))
set_option maxRecDepth 20000 in
set_option maxHeartbeats 4000000 in
theorem t_J9_floorMod_7cf53 (p0 : Int32) (p1 : Int32) (M : Mm) (x : Int32) (M' : Mm) (h : f_J9_floorMod_7cf53 p0 p1 M = some (x, M')) : Ctr yJ9_floorMod_7cf53 cJ9_floorMod_7cf53 3 (some .int) rJ9_floorMod_7cf53 (fun _ => [.int p0, .int p1]) M (zI x) M' := by
  refine ctr_of (by decide +kernel) (fun _ => Nat.le_of_ble_eq_true rfl) (fun z hz hin hq => ?_)
  have key : Sim z 0 [(0, .int p0), (1, .int p1)] [] M 0 0 (f_J9_floorMod_7cf53 p0 p1 M) (fun a b => a = x ∧ b = M') := by
    have hq : Ret z zI (fun a b => a = x ∧ b = M') := fun a b e => by rw [e.1, e.2]; exact hq
    unfold f_J9_floorMod_7cf53
    refine r_iload_n hz dJ9_floorMod_7cf53_0 0 rfl ?_
    refine r_iload_n hz dJ9_floorMod_7cf53_1 1 rfl ?_
    refine r_irem hz dJ9_floorMod_7cf53_2 ?_
    refine r_nmi (fun v1 => ?_)
    refine r_istore_n (lv' := [(2, .int v1), (0, .int p0), (1, .int p1)]) hz dJ9_floorMod_7cf53_3 (by decide) rfl ?_
    refine r_iload_n hz dJ9_floorMod_7cf53_4 1 rfl ?_
    refine r_iload_n hz dJ9_floorMod_7cf53_5 2 rfl ?_
    refine r_ixor hz dJ9_floorMod_7cf53_6 ?_
    refine r_if_ge (tgt := 18) hz dJ9_floorMod_7cf53_7 rfl ?_ ?_
    · refine r_iload_n hz dJ9_floorMod_7cf53_18 0 rfl ?_
      exact r_iret hz hq dJ9_floorMod_7cf53_19 (Nat.le_of_ble_eq_true rfl) (Nat.le_of_ble_eq_true rfl)
    · refine r_iload_n hz dJ9_floorMod_7cf53_10 0 rfl ?_
      refine r_if_eq (tgt := 18) hz dJ9_floorMod_7cf53_11 rfl ?_ ?_
      · refine r_iload_n hz dJ9_floorMod_7cf53_18 0 rfl ?_
        exact r_iret hz hq dJ9_floorMod_7cf53_19 (Nat.le_of_ble_eq_true rfl) (Nat.le_of_ble_eq_true rfl)
      · refine r_iload_n hz dJ9_floorMod_7cf53_14 0 rfl ?_
        refine r_iload_n hz dJ9_floorMod_7cf53_15 2 rfl ?_
        refine r_iadd hz dJ9_floorMod_7cf53_16 ?_
        exact r_iret hz hq dJ9_floorMod_7cf53_17 (Nat.le_of_ble_eq_true rfl) (Nat.le_of_ble_eq_true rfl)
  exact key x M' h ⟨rfl, rfl⟩
theorem dX1_draw_0 : decode cX1_draw 0 = .ok (.aload_n 0, 1) := by decide +kernel
theorem dX1_draw_1 : decode cX1_draw 1 = .ok (.getfield 15, 3) := by decide +kernel
theorem dX1_draw_4 : decode cX1_draw 4 = .ok (.ifCond .gt 5, 3) := by decide +kernel
theorem dX1_draw_7 : decode cX1_draw 7 = .ok (.iconst 0, 1) := by decide +kernel
theorem dX1_draw_8 : decode cX1_draw 8 = .ok (.ireturn, 1) := by decide +kernel
theorem dX1_draw_9 : decode cX1_draw 9 = .ok (.aload_n 0, 1) := by decide +kernel
theorem dX1_draw_10 : decode cX1_draw 10 = .ok (.ldc2_w 36, 3) := by decide +kernel
theorem dX1_draw_13 : decode cX1_draw 13 = .ok (.aload_n 0, 1) := by decide +kernel
theorem dX1_draw_14 : decode cX1_draw 14 = .ok (.getfield 19, 3) := by decide +kernel
theorem dX1_draw_17 : decode cX1_draw 17 = .ok (.i2l, 1) := by decide +kernel
theorem dX1_draw_18 : decode cX1_draw 18 = .ok (.lmul, 1) := by decide +kernel
theorem dX1_draw_19 : decode cX1_draw 19 = .ok (.ldc2_w 38, 3) := by decide +kernel
theorem dX1_draw_22 : decode cX1_draw 22 = .ok (.lrem, 1) := by decide +kernel
theorem dX1_draw_23 : decode cX1_draw 23 = .ok (.l2i, 1) := by decide +kernel
theorem dX1_draw_24 : decode cX1_draw 24 = .ok (.putfield 19, 3) := by decide +kernel
theorem dX1_draw_27 : decode cX1_draw 27 = .ok (.aload_n 0, 1) := by decide +kernel
theorem dX1_draw_28 : decode cX1_draw 28 = .ok (.getfield 19, 3) := by decide +kernel
theorem dX1_draw_31 : decode cX1_draw 31 = .ok (.aload_n 0, 1) := by decide +kernel
theorem dX1_draw_32 : decode cX1_draw 32 = .ok (.getfield 15, 3) := by decide +kernel
theorem dX1_draw_35 : decode cX1_draw 35 = .ok (.invokestatic 40, 3) := by decide +kernel
theorem dX1_draw_38 : decode cX1_draw 38 = .ok (.istore_n 1, 1) := by decide +kernel
theorem dX1_draw_39 : decode cX1_draw 39 = .ok (.aload_n 0, 1) := by decide +kernel
theorem dX1_draw_40 : decode cX1_draw 40 = .ok (.getfield 9, 3) := by decide +kernel
theorem dX1_draw_43 : decode cX1_draw 43 = .ok (.iload_n 1, 1) := by decide +kernel
theorem dX1_draw_44 : decode cX1_draw 44 = .ok (.iaload, 1) := by decide +kernel
theorem dX1_draw_45 : decode cX1_draw 45 = .ok (.istore_n 2, 1) := by decide +kernel
theorem dX1_draw_46 : decode cX1_draw 46 = .ok (.aload_n 0, 1) := by decide +kernel
theorem dX1_draw_47 : decode cX1_draw 47 = .ok (.dup, 1) := by decide +kernel
theorem dX1_draw_48 : decode cX1_draw 48 = .ok (.getfield 15, 3) := by decide +kernel
theorem dX1_draw_51 : decode cX1_draw 51 = .ok (.iconst 1, 1) := by decide +kernel
theorem dX1_draw_52 : decode cX1_draw 52 = .ok (.isub, 1) := by decide +kernel
theorem dX1_draw_53 : decode cX1_draw 53 = .ok (.putfield 15, 3) := by decide +kernel
theorem dX1_draw_56 : decode cX1_draw 56 = .ok (.iload_n 1, 1) := by decide +kernel
theorem dX1_draw_57 : decode cX1_draw 57 = .ok (.istore_n 3, 1) := by decide +kernel
theorem dX1_draw_58 : decode cX1_draw 58 = .ok (.iload_n 3, 1) := by decide +kernel
theorem dX1_draw_59 : decode cX1_draw 59 = .ok (.aload_n 0, 1) := by decide +kernel
theorem dX1_draw_60 : decode cX1_draw 60 = .ok (.getfield 15, 3) := by decide +kernel
theorem dX1_draw_63 : decode cX1_draw 63 = .ok (.if_icmp .ge 23, 3) := by decide +kernel
theorem dX1_draw_66 : decode cX1_draw 66 = .ok (.aload_n 0, 1) := by decide +kernel
theorem dX1_draw_67 : decode cX1_draw 67 = .ok (.getfield 9, 3) := by decide +kernel
theorem dX1_draw_70 : decode cX1_draw 70 = .ok (.iload_n 3, 1) := by decide +kernel
theorem dX1_draw_71 : decode cX1_draw 71 = .ok (.aload_n 0, 1) := by decide +kernel
theorem dX1_draw_72 : decode cX1_draw 72 = .ok (.getfield 9, 3) := by decide +kernel
theorem dX1_draw_75 : decode cX1_draw 75 = .ok (.iload_n 3, 1) := by decide +kernel
theorem dX1_draw_76 : decode cX1_draw 76 = .ok (.iconst 1, 1) := by decide +kernel
theorem dX1_draw_77 : decode cX1_draw 77 = .ok (.iadd, 1) := by decide +kernel
theorem dX1_draw_78 : decode cX1_draw 78 = .ok (.iaload, 1) := by decide +kernel
theorem dX1_draw_79 : decode cX1_draw 79 = .ok (.iastore, 1) := by decide +kernel
theorem dX1_draw_80 : decode cX1_draw 80 = .ok (.iinc 3 1, 3) := by decide +kernel
theorem dX1_draw_83 : decode cX1_draw 83 = .ok (.goto (-25), 3) := by decide +kernel
theorem dX1_draw_86 : decode cX1_draw 86 = .ok (.iload_n 2, 1) := by decide +kernel
theorem dX1_draw_87 : decode cX1_draw 87 = .ok (.ireturn, 1) := by decide +kernel
abbrev rX1_draw : Room := { frames := 1, cells := 0, slots := 0, locals := 22 }
theorem cal_X1_draw : CalOk yX1_draw cX1_draw 4 (some .int) 0 := ⟨wm_4_14, wm_1_6, by decide, by decide, by decide +kernel⟩
def f_X1_draw_58 : Nat → Nat → Int32 → Int32 → Mm → Option (Int32 × Mm)
  | 0, _, _, _, _ => none
  | n + 1, x0, x2, x3, M =>
    ck (gK M x0 = 1) ((if (gI M x0 1) ≤ x3 then
      some (x2, M)
    else
      ck (gK M x0 = 1) (bR (gR M x0 0) fun q1 => ck (gK M x0 = 1) (bR (gR M x0 0) fun q2 => ck (gK M q2 = 10 ∧ inb (x3 + (1 : Int32)) (gN M q2)) (ck (gK M q1 = 10 ∧ inb x3 (gN M q1)) (nm (sI M q1 (x3).toNatClampNeg (gI M q2 ((x3 + (1 : Int32))).toNatClampNeg)) fun M3 =>
      f_X1_draw_58 n x0 x2 (x3 + (1 : Int32)) M3))))))
set_option maxRecDepth 20000 in
set_option maxHeartbeats 4000000 in
theorem s_X1_draw_58 {z : Zt} {K : Int32 → Mm → Prop} (hz : Good z RX1 cX1_draw 4 rX1_draw (some .int)) (hq : Ret z zI K) : ∀ (n : Nat) (x0 : Nat) (x2 : Int32) (x3 : Int32) (M : Mm), Sim z 58 [(0, .ref x0), (2, .int x2), (3, .int x3)] [] M 0 0 (f_X1_draw_58 n x0 x2 x3 M) K := by
  intro n
  induction n with
  | zero => exact fun _ _ _ _ => r_none
  | succ n ih =>
    intro x0 x2 x3 M
    unfold f_X1_draw_58
    refine r_iload_n hz dX1_draw_58 2 rfl ?_
    refine r_aload_n hz dX1_draw_59 0 rfl ?_
    refine r_getI (j := 1) cl1 hz dX1_draw_60 (by decide) wm_2_64 rfl ?_
    refine r_icmp_ge (tgt := 86) hz dX1_draw_63 rfl ?_ ?_
    · refine r_iload_n hz dX1_draw_86 1 rfl ?_
      exact r_iret hz hq dX1_draw_87 (Nat.le_of_ble_eq_true rfl) (Nat.le_of_ble_eq_true rfl)
    · refine r_aload_n hz dX1_draw_66 0 rfl ?_
      refine r_getR (j := 0) cl1 hz dX1_draw_67 (by decide) wm_2_63 rfl (fun q1 => ?_)
      refine r_iload_n hz dX1_draw_70 2 rfl ?_
      refine r_aload_n hz dX1_draw_71 0 rfl ?_
      refine r_getR (j := 0) cl1 hz dX1_draw_72 (by decide) wm_2_63 rfl (fun q2 => ?_)
      refine r_iload_n hz dX1_draw_75 2 rfl ?_
      refine r_iconst (v := 1) hz dX1_draw_76 rfl ?_
      refine r_iadd hz dX1_draw_77 ?_
      refine r_iald hz dX1_draw_78 ?_
      refine r_iast hz dX1_draw_79 ?_
      refine r_nmM (fun M3 => ?_)
      refine r_iinc (v := (x3 + (1 : Int32))) (lv' := [(3, .int (x3 + (1 : Int32))), (0, .ref x0), (2, .int x2)]) hz dX1_draw_80 2 rfl rfl (by decide) rfl ?_
      refine r_goto (tgt := 58) hz dX1_draw_83 rfl ?_
      refine r_sub [1, 2, 0] rfl ?_
      exact ih x0 x2 (x3 + (1 : Int32)) M3
def f_X1_draw (p0 : Nat) (M : Mm) : Option (Int32 × Mm) :=
  ck (gK M p0 = 1) ((if 0 < (gI M p0 1) then
    ck (gK M p0 = 1) (ck (¬ (2147483647 : Int64) = 0) (ck (gK M p0 = 1) (nm (sI M p0 2 ((((48271 : Int64) * ((gI M p0 2)).toInt64) - ((48271 : Int64) * ((gI M p0 2)).toInt64) / (2147483647 : Int64) * (2147483647 : Int64))).toInt32) fun M1 =>
    ck (gK M1 p0 = 1) (ck (gK M1 p0 = 1) (bd (f_J9_floorMod_7cf53 (gI M1 p0 2) (gI M1 p0 1) M1) fun v3 M2 =>
    ck (gK M2 p0 = 1) (bR (gR M2 p0 0) fun q4 => ck (gK M2 q4 = 10 ∧ inb v3 (gN M2 q4)) (nm (gI M2 q4 (v3).toNatClampNeg) fun v5 =>
    ck (gK M2 p0 = 1) (ck (gK M2 p0 = 1) (nm (sI M2 p0 1 ((gI M2 p0 1) - (1 : Int32))) fun M6 =>
    f_X1_draw_58 FU p0 v5 v3 M6)))))))))
  else
    some ((0 : Int32), M)))
set_option maxRecDepth 20000 in
set_option maxHeartbeats 4000000 in
theorem t_X1_draw (p0 : Nat) (M : Mm) (x : Int32) (M' : Mm) (h : f_X1_draw p0 M = some (x, M')) : Ctr yX1_draw cX1_draw 4 (some .int) rX1_draw (fun _ => [.ref p0]) M (zI x) M' := by
  refine ctr_of (plainFor_of_name (by decide)) (fun _ => Nat.le_of_ble_eq_true rfl) (fun z hz hin hq => ?_)
  have key : Sim z 0 [(0, .ref p0)] [] M 0 0 (f_X1_draw p0 M) (fun a b => a = x ∧ b = M') := by
    have hq : Ret z zI (fun a b => a = x ∧ b = M') := fun a b e => by rw [e.1, e.2]; exact hq
    unfold f_X1_draw
    refine r_aload_n hz dX1_draw_0 0 rfl ?_
    refine r_getI (j := 1) cl1 hz dX1_draw_1 (by decide) wm_2_64 rfl ?_
    refine r_if_gt (tgt := 9) hz dX1_draw_4 rfl ?_ ?_
    · refine r_aload_n hz dX1_draw_9 0 rfl ?_
      refine r_ldc2 (v := 48271) hz dX1_draw_10 wm_4_15 ?_
      refine r_aload_n hz dX1_draw_13 0 rfl ?_
      refine r_getI (j := 2) cl1 hz dX1_draw_14 (by decide) wm_2_65 rfl ?_
      refine r_i2l hz dX1_draw_17 ?_
      refine r_lmul hz dX1_draw_18 ?_
      refine r_ldc2 (v := 2147483647) hz dX1_draw_19 wm_4_16 ?_
      refine r_lrem hz dX1_draw_22 ?_
      refine r_l2i hz dX1_draw_23 ?_
      refine r_putI (j := 2) cl1 hz dX1_draw_24 (by decide) wm_2_65 (Or.inl rfl) rfl rfl rfl ?_
      refine r_nmM (fun M1 => ?_)
      refine r_aload_n hz dX1_draw_27 0 rfl ?_
      refine r_getI (j := 2) cl1 hz dX1_draw_28 (by decide) wm_2_65 rfl ?_
      refine r_aload_n hz dX1_draw_31 0 rfl ?_
      refine r_getI (j := 1) cl1 hz dX1_draw_32 (by decide) wm_2_64 rfl ?_
      refine r_callSi (As := fun _ => [.int (gI M1 p0 2), .int (gI M1 p0 1)]) hz (fun _ _ h => t_J9_floorMod_7cf53 _ _ _ _ _ h) cal_J9_floorMod_7cf53 dX1_draw_35 wm_4_17 wm_4_18 rfl rfl (Nat.le_of_ble_eq_true rfl) ⟨(Nat.le_of_ble_eq_true rfl), (Nat.le_of_ble_eq_true rfl)⟩ ⟨(Nat.le_of_ble_eq_true rfl), (Nat.le_of_ble_eq_true rfl)⟩ (fun v3 M2 => ?_)
      refine r_istore_n (lv' := [(1, .int v3), (0, .ref p0)]) hz dX1_draw_38 (by decide) rfl ?_
      refine r_aload_n hz dX1_draw_39 1 rfl ?_
      refine r_getR (j := 0) cl1 hz dX1_draw_40 (by decide) wm_2_63 rfl (fun q4 => ?_)
      refine r_iload_n hz dX1_draw_43 0 rfl ?_
      refine r_iald hz dX1_draw_44 ?_
      refine r_nmi (fun v5 => ?_)
      refine r_istore_n (lv' := [(2, .int v5), (1, .int v3), (0, .ref p0)]) hz dX1_draw_45 (by decide) rfl ?_
      refine r_aload_n hz dX1_draw_46 2 rfl ?_
      refine r_dup hz dX1_draw_47 rfl ?_
      refine r_getI (j := 1) cl1 hz dX1_draw_48 (by decide) wm_2_64 rfl ?_
      refine r_iconst (v := 1) hz dX1_draw_51 rfl ?_
      refine r_isub hz dX1_draw_52 ?_
      refine r_putI (j := 1) cl1 hz dX1_draw_53 (by decide) wm_2_64 (Or.inl rfl) rfl rfl rfl ?_
      refine r_nmM (fun M6 => ?_)
      refine r_iload_n hz dX1_draw_56 1 rfl ?_
      refine r_istore_n (lv' := [(3, .int v3), (2, .int v5), (1, .int v3), (0, .ref p0)]) hz dX1_draw_57 (by decide) rfl ?_
      refine r_sub [3, 1, 0] rfl ?_
      exact s_X1_draw_58 hz hq FU p0 v5 v3 M6
    · refine r_iconst (v := 0) hz dX1_draw_7 rfl ?_
      exact r_iret hz hq dX1_draw_8 (Nat.le_of_ble_eq_true rfl) (Nat.le_of_ble_eq_true rfl)
  exact key x M' h ⟨rfl, rfl⟩
theorem dX2_init_0 : decode cX2_init 0 = .ok (.aload_n 0, 1) := by decide +kernel
theorem dX2_init_1 : decode cX2_init 1 = .ok (.invokespecial 3, 3) := by decide +kernel
theorem dX2_init_4 : decode cX2_init 4 = .ok (.aload_n 0, 1) := by decide +kernel
theorem dX2_init_5 : decode cX2_init 5 = .ok (.bipush 6, 2) := by decide +kernel
theorem dX2_init_7 : decode cX2_init 7 = .ok (.newarray .int, 2) := by decide +kernel
theorem dX2_init_9 : decode cX2_init 9 = .ok (.putfield 9, 3) := by decide +kernel
theorem dX2_init_12 : decode cX2_init 12 = .ok (.aload_n 0, 1) := by decide +kernel
theorem dX2_init_13 : decode cX2_init 13 = .ok (.bipush 6, 2) := by decide +kernel
theorem dX2_init_15 : decode cX2_init 15 = .ok (.newarray .int, 2) := by decide +kernel
theorem dX2_init_17 : decode cX2_init 17 = .ok (.putfield 15, 3) := by decide +kernel
theorem dX2_init_20 : decode cX2_init 20 = .ok (.return_, 1) := by decide +kernel
abbrev rX2_init : Room := { frames := 1, cells := 2, slots := 12, locals := 20 }
theorem cal_X2_init : CalOk yX2_init cX2_init 1 none 0 := ⟨wm_2_93, wm_1_8, by decide, by decide, by decide +kernel⟩
def f_X2_init (p0 : Nat) (M : Mm) : Option (Unit × Mm) :=
  nm (gT M) fun q1 => nm (sN M 10 6) fun M2 =>
  ck (gK M2 p0 = 2) (nm (sR M2 p0 0 (some q1)) fun M3 =>
  nm (gT M3) fun q4 => nm (sN M3 10 6) fun M5 =>
  ck (gK M5 p0 = 2) (nm (sR M5 p0 1 (some q4)) fun M6 =>
  some ((), M6)))
set_option maxRecDepth 20000 in
set_option maxHeartbeats 4000000 in
theorem t_X2_init (p0 : Nat) (M : Mm) (x : Unit) (M' : Mm) (h : f_X2_init p0 M = some (x, M')) : Ctr yX2_init cX2_init 1 none rX2_init (fun _ => [.ref p0]) M (zU x) M' := by
  refine ctr_of (plainFor_of_name (by decide)) (fun _ => Nat.le_of_ble_eq_true rfl) (fun z hz hin hq => ?_)
  have key : Sim z 0 [(0, .ref p0)] [] M 0 0 (f_X2_init p0 M) (fun a b => a = x ∧ b = M') := by
    have hq : Ret z zU (fun a b => a = x ∧ b = M') := fun a b e => by rw [e.1, e.2]; exact hq
    have hin := hin rfl
    unfold f_X2_init
    refine r_aload_n hz dX2_init_0 0 rfl ?_
    refine r_objInit hz dX2_init_1 wm_2_94 wm_1_27 wm_1_28 (Nat.le_of_ble_eq_true rfl) (Nat.le_of_ble_eq_true rfl) ?_
    refine r_aload_n hz dX2_init_4 0 rfl ?_
    refine r_bipush (v := 6) hz dX2_init_5 rfl ?_
    refine r_newI (len := 6) hz dX2_init_7 wm_1_133 rfl (by decide) (Nat.le_of_ble_eq_true rfl) (Nat.le_of_ble_eq_true rfl) (Nat.le_of_ble_eq_true rfl) ?_
    refine r_nma (fun q1 => ?_)
    refine r_nmM (fun M2 => ?_)
    refine r_putR (j := 0) cl2 hz dX2_init_9 (by decide) wm_2_95 (Or.inr ⟨rfl, hin⟩) rfl rfl rfl ?_
    refine r_nmM (fun M3 => ?_)
    refine r_aload_n hz dX2_init_12 0 rfl ?_
    refine r_bipush (v := 6) hz dX2_init_13 rfl ?_
    refine r_newI (len := 6) hz dX2_init_15 wm_1_133 rfl (by decide) (Nat.le_of_ble_eq_true rfl) (Nat.le_of_ble_eq_true rfl) (Nat.le_of_ble_eq_true rfl) ?_
    refine r_nma (fun q4 => ?_)
    refine r_nmM (fun M5 => ?_)
    refine r_putR (j := 1) cl2 hz dX2_init_17 (by decide) wm_2_97 (Or.inr ⟨rfl, hin⟩) rfl rfl rfl ?_
    refine r_nmM (fun M6 => ?_)
    exact r_vret hz hq dX2_init_20 (Nat.le_of_ble_eq_true rfl) (Nat.le_of_ble_eq_true rfl)
  exact key x M' h ⟨rfl, rfl⟩
theorem dJ7_fill_53178_0 : decode cJ7_fill_53178 0 = .ok (.iconst 0, 1) := by decide +kernel
theorem dJ7_fill_53178_1 : decode cJ7_fill_53178 1 = .ok (.istore_n 2, 1) := by decide +kernel
theorem dJ7_fill_53178_2 : decode cJ7_fill_53178 2 = .ok (.aload_n 0, 1) := by decide +kernel
theorem dJ7_fill_53178_3 : decode cJ7_fill_53178 3 = .ok (.arraylength, 1) := by decide +kernel
theorem dJ7_fill_53178_4 : decode cJ7_fill_53178 4 = .ok (.istore_n 3, 1) := by decide +kernel
theorem dJ7_fill_53178_5 : decode cJ7_fill_53178 5 = .ok (.iload_n 2, 1) := by decide +kernel
theorem dJ7_fill_53178_6 : decode cJ7_fill_53178 6 = .ok (.iload_n 3, 1) := by decide +kernel
theorem dJ7_fill_53178_7 : decode cJ7_fill_53178 7 = .ok (.if_icmp .ge 13, 3) := by decide +kernel
theorem dJ7_fill_53178_10 : decode cJ7_fill_53178 10 = .ok (.aload_n 0, 1) := by decide +kernel
theorem dJ7_fill_53178_11 : decode cJ7_fill_53178 11 = .ok (.iload_n 2, 1) := by decide +kernel
theorem dJ7_fill_53178_12 : decode cJ7_fill_53178 12 = .ok (.iload_n 1, 1) := by decide +kernel
theorem dJ7_fill_53178_13 : decode cJ7_fill_53178 13 = .ok (.iastore, 1) := by decide +kernel
theorem dJ7_fill_53178_14 : decode cJ7_fill_53178 14 = .ok (.iinc 2 1, 3) := by decide +kernel
theorem dJ7_fill_53178_17 : decode cJ7_fill_53178 17 = .ok (.goto (-12), 3) := by decide +kernel
theorem dJ7_fill_53178_20 : decode cJ7_fill_53178 20 = .ok (.return_, 1) := by decide +kernel
abbrev rJ7_fill_53178 : Room := { frames := 0, cells := 0, slots := 0, locals := 0 }
theorem cal_J7_fill_53178 : CalOk yJ7_fill_53178 cJ7_fill_53178 4 none 2 := ⟨wm_2_163, wm_1_10, by decide, by decide, by decide +kernel⟩
def f_J7_fill_53178_5 : Nat → Nat → Int32 → Int32 → Int32 → Mm → Option (Unit × Mm)
  | 0, _, _, _, _, _ => none
  | n + 1, x0, x1, x2, x3, M =>
    (if x3 ≤ x2 then
      some ((), M)
    else
      ck (gK M x0 = 10 ∧ inb x2 (gN M x0)) (nm (sI M x0 (x2).toNatClampNeg x1) fun M1 =>
      f_J7_fill_53178_5 n x0 x1 (x2 + (1 : Int32)) x3 M1))
set_option maxRecDepth 20000 in
set_option maxHeartbeats 4000000 in
theorem s_J7_fill_53178_5 {z : Zt} {K : Unit → Mm → Prop} (hz : Good z RJ7 cJ7_fill_53178 4 rJ7_fill_53178 none) (hq : Ret z zU K) : ∀ (n : Nat) (x0 : Nat) (x1 : Int32) (x2 : Int32) (x3 : Int32) (M : Mm), Sim z 5 [(0, .ref x0), (1, .int x1), (2, .int x2), (3, .int x3)] [] M 0 0 (f_J7_fill_53178_5 n x0 x1 x2 x3 M) K := by
  intro n
  induction n with
  | zero => exact fun _ _ _ _ _ => r_none
  | succ n ih =>
    intro x0 x1 x2 x3 M
    unfold f_J7_fill_53178_5
    refine r_iload_n hz dJ7_fill_53178_5 2 rfl ?_
    refine r_iload_n hz dJ7_fill_53178_6 3 rfl ?_
    refine r_icmp_ge (tgt := 20) hz dJ7_fill_53178_7 rfl ?_ ?_
    · exact r_vret hz hq dJ7_fill_53178_20 (Nat.le_of_ble_eq_true rfl) (Nat.le_of_ble_eq_true rfl)
    · refine r_aload_n hz dJ7_fill_53178_10 0 rfl ?_
      refine r_iload_n hz dJ7_fill_53178_11 2 rfl ?_
      refine r_iload_n hz dJ7_fill_53178_12 1 rfl ?_
      refine r_iast hz dJ7_fill_53178_13 ?_
      refine r_nmM (fun M1 => ?_)
      refine r_iinc (v := (x2 + (1 : Int32))) (lv' := [(2, .int (x2 + (1 : Int32))), (0, .ref x0), (1, .int x1), (3, .int x3)]) hz dJ7_fill_53178_14 2 rfl rfl (by decide) rfl ?_
      refine r_goto (tgt := 5) hz dJ7_fill_53178_17 rfl ?_
      refine r_sub [1, 2, 0, 3] rfl ?_
      exact ih x0 x1 (x2 + (1 : Int32)) x3 M1
def f_J7_fill_53178 (p0 : Nat) (p1 : Int32) (M : Mm) : Option (Unit × Mm) :=
  ck (gK M p0 = 10) (nm (Int32.ofNat (gN M p0)) fun v1 =>
  f_J7_fill_53178_5 FU p0 p1 (0 : Int32) v1 M)
set_option maxRecDepth 20000 in
set_option maxHeartbeats 4000000 in
theorem t_J7_fill_53178 (p0 : Nat) (p1 : Int32) (M : Mm) (x : Unit) (M' : Mm) (h : f_J7_fill_53178 p0 p1 M = some (x, M')) : Ctr yJ7_fill_53178 cJ7_fill_53178 4 none rJ7_fill_53178 (fun _ => [.ref p0, .int p1]) M (zU x) M' := by
  refine ctr_of (plainFor_of_name (by decide)) (fun _ => Nat.le_of_ble_eq_true rfl) (fun z hz hin hq => ?_)
  have key : Sim z 0 [(0, .ref p0), (1, .int p1)] [] M 0 0 (f_J7_fill_53178 p0 p1 M) (fun a b => a = x ∧ b = M') := by
    have hq : Ret z zU (fun a b => a = x ∧ b = M') := fun a b e => by rw [e.1, e.2]; exact hq
    unfold f_J7_fill_53178
    refine r_iconst (v := 0) hz dJ7_fill_53178_0 rfl ?_
    refine r_istore_n (lv' := [(2, .int (0 : Int32)), (0, .ref p0), (1, .int p1)]) hz dJ7_fill_53178_1 (by decide) rfl ?_
    refine r_aload_n hz dJ7_fill_53178_2 1 rfl ?_
    refine r_alen hz dJ7_fill_53178_3 ?_
    refine r_nmi (fun v1 => ?_)
    refine r_istore_n (lv' := [(3, .int v1), (2, .int (0 : Int32)), (0, .ref p0), (1, .int p1)]) hz dJ7_fill_53178_4 (by decide) rfl ?_
    refine r_sub [2, 3, 1, 0] rfl ?_
    exact s_J7_fill_53178_5 hz hq FU p0 p1 (0 : Int32) v1 M
  exact key x M' h ⟨rfl, rfl⟩
theorem dX2_reckon_0 : decode cX2_reckon 0 = .ok (.aload_n 0, 1) := by decide +kernel
theorem dX2_reckon_1 : decode cX2_reckon 1 = .ok (.getfield 9, 3) := by decide +kernel
theorem dX2_reckon_4 : decode cX2_reckon 4 = .ok (.iconst 0, 1) := by decide +kernel
theorem dX2_reckon_5 : decode cX2_reckon 5 = .ok (.invokestatic 18, 3) := by decide +kernel
theorem dX2_reckon_8 : decode cX2_reckon 8 = .ok (.aload_n 0, 1) := by decide +kernel
theorem dX2_reckon_9 : decode cX2_reckon 9 = .ok (.getfield 15, 3) := by decide +kernel
theorem dX2_reckon_12 : decode cX2_reckon 12 = .ok (.iconst 0, 1) := by decide +kernel
theorem dX2_reckon_13 : decode cX2_reckon 13 = .ok (.invokestatic 18, 3) := by decide +kernel
theorem dX2_reckon_16 : decode cX2_reckon 16 = .ok (.iconst 0, 1) := by decide +kernel
theorem dX2_reckon_17 : decode cX2_reckon 17 = .ok (.istore_n 3, 1) := by decide +kernel
theorem dX2_reckon_18 : decode cX2_reckon 18 = .ok (.iload_n 3, 1) := by decide +kernel
theorem dX2_reckon_19 : decode cX2_reckon 19 = .ok (.aload_n 1, 1) := by decide +kernel
theorem dX2_reckon_20 : decode cX2_reckon 20 = .ok (.getfield 24, 3) := by decide +kernel
theorem dX2_reckon_23 : decode cX2_reckon 23 = .ok (.if_icmp .ge 96, 3) := by decide +kernel
theorem dX2_reckon_26 : decode cX2_reckon 26 = .ok (.iconst 1, 1) := by decide +kernel
theorem dX2_reckon_27 : decode cX2_reckon 27 = .ok (.istore 4, 2) := by decide +kernel
theorem dX2_reckon_29 : decode cX2_reckon 29 = .ok (.iload 4, 2) := by decide +kernel
theorem dX2_reckon_31 : decode cX2_reckon 31 = .ok (.aload_n 1, 1) := by decide +kernel
theorem dX2_reckon_32 : decode cX2_reckon 32 = .ok (.getfield 30, 3) := by decide +kernel
theorem dX2_reckon_35 : decode cX2_reckon 35 = .ok (.iload_n 3, 1) := by decide +kernel
theorem dX2_reckon_36 : decode cX2_reckon 36 = .ok (.iaload, 1) := by decide +kernel
theorem dX2_reckon_37 : decode cX2_reckon 37 = .ok (.if_icmp .gt 76, 3) := by decide +kernel
theorem dX2_reckon_40 : decode cX2_reckon 40 = .ok (.iload_n 3, 1) := by decide +kernel
theorem dX2_reckon_41 : decode cX2_reckon 41 = .ok (.iload 4, 2) := by decide +kernel
theorem dX2_reckon_43 : decode cX2_reckon 43 = .ok (.invokestatic 33, 3) := by decide +kernel
theorem dX2_reckon_46 : decode cX2_reckon 46 = .ok (.istore 5, 2) := by decide +kernel
theorem dX2_reckon_48 : decode cX2_reckon 48 = .ok (.aload_n 2, 1) := by decide +kernel
theorem dX2_reckon_49 : decode cX2_reckon 49 = .ok (.getfield 37, 3) := by decide +kernel
theorem dX2_reckon_52 : decode cX2_reckon 52 = .ok (.iload 5, 2) := by decide +kernel
theorem dX2_reckon_54 : decode cX2_reckon 54 = .ok (.iaload, 1) := by decide +kernel
theorem dX2_reckon_55 : decode cX2_reckon 55 = .ok (.istore 6, 2) := by decide +kernel
theorem dX2_reckon_57 : decode cX2_reckon 57 = .ok (.iload 6, 2) := by decide +kernel
theorem dX2_reckon_59 : decode cX2_reckon 59 = .ok (.ifCond .lt 48, 3) := by decide +kernel
theorem dX2_reckon_62 : decode cX2_reckon 62 = .ok (.iload 6, 2) := by decide +kernel
theorem dX2_reckon_64 : decode cX2_reckon 64 = .ok (.bipush 6, 2) := by decide +kernel
theorem dX2_reckon_66 : decode cX2_reckon 66 = .ok (.if_icmp .ge 41, 3) := by decide +kernel
theorem dX2_reckon_69 : decode cX2_reckon 69 = .ok (.aload_n 2, 1) := by decide +kernel
theorem dX2_reckon_70 : decode cX2_reckon 70 = .ok (.getfield 42, 3) := by decide +kernel
theorem dX2_reckon_73 : decode cX2_reckon 73 = .ok (.iload 5, 2) := by decide +kernel
theorem dX2_reckon_75 : decode cX2_reckon 75 = .ok (.iaload, 1) := by decide +kernel
theorem dX2_reckon_76 : decode cX2_reckon 76 = .ok (.ifCond .eq 31, 3) := by decide +kernel
theorem dX2_reckon_79 : decode cX2_reckon 79 = .ok (.aload_n 0, 1) := by decide +kernel
theorem dX2_reckon_80 : decode cX2_reckon 80 = .ok (.getfield 9, 3) := by decide +kernel
theorem dX2_reckon_83 : decode cX2_reckon 83 = .ok (.iload 6, 2) := by decide +kernel
theorem dX2_reckon_85 : decode cX2_reckon 85 = .ok (.dup2, 1) := by decide +kernel
theorem dX2_reckon_86 : decode cX2_reckon 86 = .ok (.iaload, 1) := by decide +kernel
theorem dX2_reckon_87 : decode cX2_reckon 87 = .ok (.aload_n 2, 1) := by decide +kernel
theorem dX2_reckon_88 : decode cX2_reckon 88 = .ok (.getfield 45, 3) := by decide +kernel
theorem dX2_reckon_91 : decode cX2_reckon 91 = .ok (.iload 5, 2) := by decide +kernel
theorem dX2_reckon_93 : decode cX2_reckon 93 = .ok (.iaload, 1) := by decide +kernel
theorem dX2_reckon_94 : decode cX2_reckon 94 = .ok (.iadd, 1) := by decide +kernel
theorem dX2_reckon_95 : decode cX2_reckon 95 = .ok (.iastore, 1) := by decide +kernel
theorem dX2_reckon_96 : decode cX2_reckon 96 = .ok (.aload_n 0, 1) := by decide +kernel
theorem dX2_reckon_97 : decode cX2_reckon 97 = .ok (.getfield 15, 3) := by decide +kernel
theorem dX2_reckon_100 : decode cX2_reckon 100 = .ok (.iload 6, 2) := by decide +kernel
theorem dX2_reckon_102 : decode cX2_reckon 102 = .ok (.dup2, 1) := by decide +kernel
theorem dX2_reckon_103 : decode cX2_reckon 103 = .ok (.iaload, 1) := by decide +kernel
theorem dX2_reckon_104 : decode cX2_reckon 104 = .ok (.iconst 1, 1) := by decide +kernel
theorem dX2_reckon_105 : decode cX2_reckon 105 = .ok (.iadd, 1) := by decide +kernel
theorem dX2_reckon_106 : decode cX2_reckon 106 = .ok (.iastore, 1) := by decide +kernel
theorem dX2_reckon_107 : decode cX2_reckon 107 = .ok (.iinc 4 1, 3) := by decide +kernel
theorem dX2_reckon_110 : decode cX2_reckon 110 = .ok (.goto (-81), 3) := by decide +kernel
theorem dX2_reckon_113 : decode cX2_reckon 113 = .ok (.iinc 3 1, 3) := by decide +kernel
theorem dX2_reckon_116 : decode cX2_reckon 116 = .ok (.goto (-98), 3) := by decide +kernel
theorem dX2_reckon_119 : decode cX2_reckon 119 = .ok (.return_, 1) := by decide +kernel
abbrev rX2_reckon : Room := { frames := 1, cells := 0, slots := 0, locals := 23 }
theorem cal_X2_reckon : CalOk yX2_reckon cX2_reckon 7 none 2 := ⟨wm_4_197, wm_1_8, by decide, by decide, by decide +kernel⟩
def f_X2_reckon_29 (r18 : Nat → Nat → Nat → Int32 → Mm → Option (Unit × Mm)) : Nat → Nat → Nat → Nat → Int32 → Int32 → Mm → Option (Unit × Mm)
  | 0, _, _, _, _, _, _ => none
  | n + 1, x0, x1, x2, x3, x4, M =>
    ck (gK M x1 = 6) (bR (gR M x1 6) fun q1 => ck (gK M q1 = 10 ∧ inb x3 (gN M q1)) ((if (gI M q1 (x3).toNatClampNeg) < x4 then
      r18 x0 x1 x2 (x3 + (1 : Int32)) M
    else
      bd (f_X7_spotOf x3 x4 M) fun v4 M3 =>
      ck (gK M3 x2 = 5) (bR (gR M3 x2 7) fun q5 => ck (gK M3 q5 = 10 ∧ inb v4 (gN M3 q5)) (nm (gI M3 q5 (v4).toNatClampNeg) fun v6 =>
      (if v6 < 0 then
        f_X2_reckon_29 r18 n x0 x1 x2 x3 (x4 + (1 : Int32)) M3
      else
        (if (6 : Int32) ≤ v6 then
          f_X2_reckon_29 r18 n x0 x1 x2 x3 (x4 + (1 : Int32)) M3
        else
          ck (gK M3 x2 = 5) (bR (gR M3 x2 6) fun q9 => ck (gK M3 q9 = 10 ∧ inb v4 (gN M3 q9)) ((if (gI M3 q9 (v4).toNatClampNeg) = 0 then
            f_X2_reckon_29 r18 n x0 x1 x2 x3 (x4 + (1 : Int32)) M3
          else
            ck (gK M3 x0 = 2) (bR (gR M3 x0 0) fun q11 => ck (gK M3 q11 = 10 ∧ inb v6 (gN M3 q11)) (ck (gK M3 x2 = 5) (bR (gR M3 x2 8) fun q12 => ck (gK M3 q12 = 10 ∧ inb v4 (gN M3 q12)) (ck (gK M3 q11 = 10 ∧ inb v6 (gN M3 q11)) (nm (sI M3 q11 (v6).toNatClampNeg ((gI M3 q11 (v6).toNatClampNeg) + (gI M3 q12 (v4).toNatClampNeg))) fun M13 =>
            ck (gK M13 x0 = 2) (bR (gR M13 x0 1) fun q14 => ck (gK M13 q14 = 10 ∧ inb v6 (gN M13 q14)) (ck (gK M13 q14 = 10 ∧ inb v6 (gN M13 q14)) (nm (sI M13 q14 (v6).toNatClampNeg ((gI M13 q14 (v6).toNatClampNeg) + (1 : Int32))) fun M15 =>
            f_X2_reckon_29 r18 n x0 x1 x2 x3 (x4 + (1 : Int32)) M15))))))))))))))))))
set_option maxRecDepth 20000 in
set_option maxHeartbeats 4000000 in
theorem s_X2_reckon_29 {z : Zt} {K : Unit → Mm → Prop} (hz : Good z RX2 cX2_reckon 7 rX2_reckon none) (hq : Ret z zU K) {r18 : Nat → Nat → Nat → Int32 → Mm → Option (Unit × Mm)} (H18 : ∀ (x0 : Nat) (x1 : Nat) (x2 : Nat) (x3 : Int32) (M : Mm), Sim z 18 [(0, .ref x0), (1, .ref x1), (2, .ref x2), (3, .int x3)] [] M 0 0 (r18 x0 x1 x2 x3 M) K) : ∀ (n : Nat) (x0 : Nat) (x1 : Nat) (x2 : Nat) (x3 : Int32) (x4 : Int32) (M : Mm), Sim z 29 [(0, .ref x0), (1, .ref x1), (2, .ref x2), (3, .int x3), (4, .int x4)] [] M 0 0 (f_X2_reckon_29 r18 n x0 x1 x2 x3 x4 M) K := by
  intro n
  induction n with
  | zero => exact fun _ _ _ _ _ _ => r_none
  | succ n ih =>
    intro x0 x1 x2 x3 x4 M
    unfold f_X2_reckon_29
    refine r_iload hz dX2_reckon_29 4 rfl ?_
    refine r_aload_n hz dX2_reckon_31 1 rfl ?_
    refine r_getR (j := 6) cl6 hz dX2_reckon_32 (by decide) wm_1_53 rfl (fun q1 => ?_)
    refine r_iload_n hz dX2_reckon_35 3 rfl ?_
    refine r_iald hz dX2_reckon_36 ?_
    refine r_icmp_gt (tgt := 113) hz dX2_reckon_37 rfl ?_ ?_
    · refine r_iinc (v := (x3 + (1 : Int32))) (lv' := [(3, .int (x3 + (1 : Int32))), (0, .ref x0), (1, .ref x1), (2, .ref x2), (4, .int x4)]) hz dX2_reckon_113 3 rfl rfl (by decide) rfl ?_
      refine r_goto (tgt := 18) hz dX2_reckon_116 rfl ?_
      refine r_sub [1, 2, 3, 0] rfl ?_
      exact H18 x0 x1 x2 (x3 + (1 : Int32)) M
    · refine r_iload_n hz dX2_reckon_40 3 rfl ?_
      refine r_iload hz dX2_reckon_41 4 rfl ?_
      refine r_callSNi (As := fun _ => [.int x3, .int x4]) (host := "DrawnBonds") hz (fun _ _ h => t_X7_spotOf _ _ _ _ _ h) cal_X7_spotOf dX2_reckon_43 (List.mem_of_getElem? (i := 15) rfl) wm_3_78 rfl rfl (Nat.le_of_ble_eq_true rfl) ⟨(Nat.le_of_ble_eq_true rfl), (Nat.le_of_ble_eq_true rfl)⟩ ⟨(Nat.le_of_ble_eq_true rfl), (Nat.le_of_ble_eq_true rfl)⟩ (fun v4 M3 => ?_)
      refine r_istore (lv' := [(5, .int v4), (0, .ref x0), (1, .ref x1), (2, .ref x2), (3, .int x3), (4, .int x4)]) hz dX2_reckon_46 (by decide) rfl ?_
      refine r_aload_n hz dX2_reckon_48 3 rfl ?_
      refine r_getR (j := 7) cl5 hz dX2_reckon_49 (by decide) wm_1_159 rfl (fun q5 => ?_)
      refine r_iload hz dX2_reckon_52 0 rfl ?_
      refine r_iald hz dX2_reckon_54 ?_
      refine r_nmi (fun v6 => ?_)
      refine r_istore (lv' := [(6, .int v6), (5, .int v4), (0, .ref x0), (1, .ref x1), (2, .ref x2), (3, .int x3), (4, .int x4)]) hz dX2_reckon_55 (by decide) rfl ?_
      refine r_iload hz dX2_reckon_57 0 rfl ?_
      refine r_if_lt (tgt := 107) hz dX2_reckon_59 rfl ?_ ?_
      · refine r_iinc (v := (x4 + (1 : Int32))) (lv' := [(4, .int (x4 + (1 : Int32))), (6, .int v6), (5, .int v4), (0, .ref x0), (1, .ref x1), (2, .ref x2), (3, .int x3)]) hz dX2_reckon_107 6 rfl rfl (by decide) rfl ?_
        refine r_goto (tgt := 29) hz dX2_reckon_110 rfl ?_
        refine r_sub [3, 4, 5, 6, 0] rfl ?_
        exact ih x0 x1 x2 x3 (x4 + (1 : Int32)) M3
      · refine r_iload hz dX2_reckon_62 0 rfl ?_
        refine r_bipush (v := 6) hz dX2_reckon_64 rfl ?_
        refine r_icmp_ge (tgt := 107) hz dX2_reckon_66 rfl ?_ ?_
        · refine r_iinc (v := (x4 + (1 : Int32))) (lv' := [(4, .int (x4 + (1 : Int32))), (6, .int v6), (5, .int v4), (0, .ref x0), (1, .ref x1), (2, .ref x2), (3, .int x3)]) hz dX2_reckon_107 6 rfl rfl (by decide) rfl ?_
          refine r_goto (tgt := 29) hz dX2_reckon_110 rfl ?_
          refine r_sub [3, 4, 5, 6, 0] rfl ?_
          exact ih x0 x1 x2 x3 (x4 + (1 : Int32)) M3
        · refine r_aload_n hz dX2_reckon_69 4 rfl ?_
          refine r_getR (j := 6) cl5 hz dX2_reckon_70 (by decide) wm_1_156 rfl (fun q9 => ?_)
          refine r_iload hz dX2_reckon_73 1 rfl ?_
          refine r_iald hz dX2_reckon_75 ?_
          refine r_if_eq (tgt := 107) hz dX2_reckon_76 rfl ?_ ?_
          · refine r_iinc (v := (x4 + (1 : Int32))) (lv' := [(4, .int (x4 + (1 : Int32))), (6, .int v6), (5, .int v4), (0, .ref x0), (1, .ref x1), (2, .ref x2), (3, .int x3)]) hz dX2_reckon_107 6 rfl rfl (by decide) rfl ?_
            refine r_goto (tgt := 29) hz dX2_reckon_110 rfl ?_
            refine r_sub [3, 4, 5, 6, 0] rfl ?_
            exact ih x0 x1 x2 x3 (x4 + (1 : Int32)) M3
          · refine r_aload_n hz dX2_reckon_79 2 rfl ?_
            refine r_getR (j := 0) cl2 hz dX2_reckon_80 (by decide) wm_2_95 rfl (fun q11 => ?_)
            refine r_iload hz dX2_reckon_83 0 rfl ?_
            refine r_dup2 hz dX2_reckon_85 rfl rfl ?_
            refine r_iald hz dX2_reckon_86 ?_
            refine r_aload_n hz dX2_reckon_87 4 rfl ?_
            refine r_getR (j := 8) cl5 hz dX2_reckon_88 (by decide) wm_1_163 rfl (fun q12 => ?_)
            refine r_iload hz dX2_reckon_91 1 rfl ?_
            refine r_iald hz dX2_reckon_93 ?_
            refine r_iadd hz dX2_reckon_94 ?_
            refine r_iast hz dX2_reckon_95 ?_
            refine r_nmM (fun M13 => ?_)
            refine r_aload_n hz dX2_reckon_96 2 rfl ?_
            refine r_getR (j := 1) cl2 hz dX2_reckon_97 (by decide) wm_2_97 rfl (fun q14 => ?_)
            refine r_iload hz dX2_reckon_100 0 rfl ?_
            refine r_dup2 hz dX2_reckon_102 rfl rfl ?_
            refine r_iald hz dX2_reckon_103 ?_
            refine r_iconst (v := 1) hz dX2_reckon_104 rfl ?_
            refine r_iadd hz dX2_reckon_105 ?_
            refine r_iast hz dX2_reckon_106 ?_
            refine r_nmM (fun M15 => ?_)
            refine r_iinc (v := (x4 + (1 : Int32))) (lv' := [(4, .int (x4 + (1 : Int32))), (6, .int v6), (5, .int v4), (0, .ref x0), (1, .ref x1), (2, .ref x2), (3, .int x3)]) hz dX2_reckon_107 6 rfl rfl (by decide) rfl ?_
            refine r_goto (tgt := 29) hz dX2_reckon_110 rfl ?_
            refine r_sub [3, 4, 5, 6, 0] rfl ?_
            exact ih x0 x1 x2 x3 (x4 + (1 : Int32)) M15
def f_X2_reckon_18 : Nat → Nat → Nat → Nat → Int32 → Mm → Option (Unit × Mm)
  | 0, _, _, _, _, _ => none
  | n + 1, x0, x1, x2, x3, M =>
    ck (gK M x1 = 6) ((if (gI M x1 0) ≤ x3 then
      some ((), M)
    else
      f_X2_reckon_29 (f_X2_reckon_18 n) FU x0 x1 x2 x3 (1 : Int32) M))
set_option maxRecDepth 20000 in
set_option maxHeartbeats 4000000 in
theorem s_X2_reckon_18 {z : Zt} {K : Unit → Mm → Prop} (hz : Good z RX2 cX2_reckon 7 rX2_reckon none) (hq : Ret z zU K) : ∀ (n : Nat) (x0 : Nat) (x1 : Nat) (x2 : Nat) (x3 : Int32) (M : Mm), Sim z 18 [(0, .ref x0), (1, .ref x1), (2, .ref x2), (3, .int x3)] [] M 0 0 (f_X2_reckon_18 n x0 x1 x2 x3 M) K := by
  intro n
  induction n with
  | zero => exact fun _ _ _ _ _ => r_none
  | succ n ih =>
    intro x0 x1 x2 x3 M
    unfold f_X2_reckon_18
    refine r_iload_n hz dX2_reckon_18 3 rfl ?_
    refine r_aload_n hz dX2_reckon_19 1 rfl ?_
    refine r_getI (j := 0) cl6 hz dX2_reckon_20 (by decide) wm_1_36 rfl ?_
    refine r_icmp_ge (tgt := 119) hz dX2_reckon_23 rfl ?_ ?_
    · exact r_vret hz hq dX2_reckon_119 (Nat.le_of_ble_eq_true rfl) (Nat.le_of_ble_eq_true rfl)
    · refine r_iconst (v := 1) hz dX2_reckon_26 rfl ?_
      refine r_istore (lv' := [(4, .int (1 : Int32)), (0, .ref x0), (1, .ref x1), (2, .ref x2), (3, .int x3)]) hz dX2_reckon_27 (by decide) rfl ?_
      refine r_sub [1, 2, 3, 4, 0] rfl ?_
      exact s_X2_reckon_29 hz hq ih FU x0 x1 x2 x3 (1 : Int32) M
def f_X2_reckon (p0 : Nat) (p1 : Nat) (p2 : Nat) (M : Mm) : Option (Unit × Mm) :=
  ck (gK M p0 = 2) (bR (gR M p0 0) fun q1 => bd (f_J7_fill_53178 q1 (0 : Int32) M) fun _ M2 =>
  ck (gK M2 p0 = 2) (bR (gR M2 p0 1) fun q3 => bd (f_J7_fill_53178 q3 (0 : Int32) M2) fun _ M4 =>
  f_X2_reckon_18 FU p0 p1 p2 (0 : Int32) M4))
set_option maxRecDepth 20000 in
set_option maxHeartbeats 4000000 in
theorem t_X2_reckon (p0 : Nat) (p1 : Nat) (p2 : Nat) (M : Mm) (x : Unit) (M' : Mm) (h : f_X2_reckon p0 p1 p2 M = some (x, M')) : Ctr yX2_reckon cX2_reckon 7 none rX2_reckon (fun _ => [.ref p0, .ref p1, .ref p2]) M (zU x) M' := by
  refine ctr_of (plainFor_of_name (by decide)) (fun _ => Nat.le_of_ble_eq_true rfl) (fun z hz hin hq => ?_)
  have key : Sim z 0 [(0, .ref p0), (1, .ref p1), (2, .ref p2)] [] M 0 0 (f_X2_reckon p0 p1 p2 M) (fun a b => a = x ∧ b = M') := by
    have hq : Ret z zU (fun a b => a = x ∧ b = M') := fun a b e => by rw [e.1, e.2]; exact hq
    unfold f_X2_reckon
    refine r_aload_n hz dX2_reckon_0 0 rfl ?_
    refine r_getR (j := 0) cl2 hz dX2_reckon_1 (by decide) wm_2_95 rfl (fun q1 => ?_)
    refine r_iconst (v := 0) hz dX2_reckon_4 rfl ?_
    refine r_callSv (As := fun _ => [.ref q1, .int (0 : Int32)]) hz (fun _ _ h => t_J7_fill_53178 _ _ _ _ _ h) cal_J7_fill_53178 dX2_reckon_5 wm_4_198 wm_2_162 rfl rfl (Nat.le_of_ble_eq_true rfl) ⟨(Nat.le_of_ble_eq_true rfl), (Nat.le_of_ble_eq_true rfl)⟩ ⟨(Nat.le_of_ble_eq_true rfl), (Nat.le_of_ble_eq_true rfl)⟩ (fun _ M2 => ?_)
    refine r_aload_n hz dX2_reckon_8 0 rfl ?_
    refine r_getR (j := 1) cl2 hz dX2_reckon_9 (by decide) wm_2_97 rfl (fun q3 => ?_)
    refine r_iconst (v := 0) hz dX2_reckon_12 rfl ?_
    refine r_callSv (As := fun _ => [.ref q3, .int (0 : Int32)]) hz (fun _ _ h => t_J7_fill_53178 _ _ _ _ _ h) cal_J7_fill_53178 dX2_reckon_13 wm_4_198 wm_2_162 rfl rfl (Nat.le_of_ble_eq_true rfl) ⟨(Nat.le_of_ble_eq_true rfl), (Nat.le_of_ble_eq_true rfl)⟩ ⟨(Nat.le_of_ble_eq_true rfl), (Nat.le_of_ble_eq_true rfl)⟩ (fun _ M4 => ?_)
    refine r_iconst (v := 0) hz dX2_reckon_16 rfl ?_
    refine r_istore_n (lv' := [(3, .int (0 : Int32)), (0, .ref p0), (1, .ref p1), (2, .ref p2)]) hz dX2_reckon_17 (by decide) rfl ?_
    refine r_sub [1, 2, 3, 0] rfl ?_
    exact s_X2_reckon_18 hz hq FU p0 p1 p2 (0 : Int32) M4
  exact key x M' h ⟨rfl, rfl⟩
theorem dX2_comesFirst_0 : decode cX2_comesFirst 0 = .ok (.aload_n 0, 1) := by decide +kernel
theorem dX2_comesFirst_1 : decode cX2_comesFirst 1 = .ok (.getfield 9, 3) := by decide +kernel
theorem dX2_comesFirst_4 : decode cX2_comesFirst 4 = .ok (.iload_n 1, 1) := by decide +kernel
theorem dX2_comesFirst_5 : decode cX2_comesFirst 5 = .ok (.iaload, 1) := by decide +kernel
theorem dX2_comesFirst_6 : decode cX2_comesFirst 6 = .ok (.aload_n 0, 1) := by decide +kernel
theorem dX2_comesFirst_7 : decode cX2_comesFirst 7 = .ok (.getfield 15, 3) := by decide +kernel
theorem dX2_comesFirst_10 : decode cX2_comesFirst 10 = .ok (.iload_n 2, 1) := by decide +kernel
theorem dX2_comesFirst_11 : decode cX2_comesFirst 11 = .ok (.iaload, 1) := by decide +kernel
theorem dX2_comesFirst_12 : decode cX2_comesFirst 12 = .ok (.imul, 1) := by decide +kernel
theorem dX2_comesFirst_13 : decode cX2_comesFirst 13 = .ok (.istore_n 3, 1) := by decide +kernel
theorem dX2_comesFirst_14 : decode cX2_comesFirst 14 = .ok (.aload_n 0, 1) := by decide +kernel
theorem dX2_comesFirst_15 : decode cX2_comesFirst 15 = .ok (.getfield 9, 3) := by decide +kernel
theorem dX2_comesFirst_18 : decode cX2_comesFirst 18 = .ok (.iload_n 2, 1) := by decide +kernel
theorem dX2_comesFirst_19 : decode cX2_comesFirst 19 = .ok (.iaload, 1) := by decide +kernel
theorem dX2_comesFirst_20 : decode cX2_comesFirst 20 = .ok (.aload_n 0, 1) := by decide +kernel
theorem dX2_comesFirst_21 : decode cX2_comesFirst 21 = .ok (.getfield 15, 3) := by decide +kernel
theorem dX2_comesFirst_24 : decode cX2_comesFirst 24 = .ok (.iload_n 1, 1) := by decide +kernel
theorem dX2_comesFirst_25 : decode cX2_comesFirst 25 = .ok (.iaload, 1) := by decide +kernel
theorem dX2_comesFirst_26 : decode cX2_comesFirst 26 = .ok (.imul, 1) := by decide +kernel
theorem dX2_comesFirst_27 : decode cX2_comesFirst 27 = .ok (.istore 4, 2) := by decide +kernel
theorem dX2_comesFirst_29 : decode cX2_comesFirst 29 = .ok (.iload_n 3, 1) := by decide +kernel
theorem dX2_comesFirst_30 : decode cX2_comesFirst 30 = .ok (.iload 4, 2) := by decide +kernel
theorem dX2_comesFirst_32 : decode cX2_comesFirst 32 = .ok (.if_icmp .gt 14, 3) := by decide +kernel
theorem dX2_comesFirst_35 : decode cX2_comesFirst 35 = .ok (.iload_n 3, 1) := by decide +kernel
theorem dX2_comesFirst_36 : decode cX2_comesFirst 36 = .ok (.iload 4, 2) := by decide +kernel
theorem dX2_comesFirst_38 : decode cX2_comesFirst 38 = .ok (.if_icmp .ne 12, 3) := by decide +kernel
theorem dX2_comesFirst_41 : decode cX2_comesFirst 41 = .ok (.iload_n 1, 1) := by decide +kernel
theorem dX2_comesFirst_42 : decode cX2_comesFirst 42 = .ok (.iload_n 2, 1) := by decide +kernel
theorem dX2_comesFirst_43 : decode cX2_comesFirst 43 = .ok (.if_icmp .ge 7, 3) := by decide +kernel
theorem dX2_comesFirst_46 : decode cX2_comesFirst 46 = .ok (.iconst 1, 1) := by decide +kernel
theorem dX2_comesFirst_47 : decode cX2_comesFirst 47 = .ok (.goto 4, 3) := by decide +kernel
theorem dX2_comesFirst_50 : decode cX2_comesFirst 50 = .ok (.iconst 0, 1) := by decide +kernel
theorem dX2_comesFirst_51 : decode cX2_comesFirst 51 = .ok (.ireturn, 1) := by decide +kernel
abbrev rX2_comesFirst : Room := { frames := 0, cells := 0, slots := 0, locals := 0 }
theorem cal_X2_comesFirst : CalOk yX2_comesFirst cX2_comesFirst 5 (some .boolean) 2 := ⟨wm_4_211, wm_1_8, by decide, by decide, by decide +kernel⟩
def f_X2_comesFirst (p0 : Nat) (p1 : Int32) (p2 : Int32) (M : Mm) : Option (Int32 × Mm) :=
  ck (gK M p0 = 2) (bR (gR M p0 0) fun q1 => ck (gK M q1 = 10 ∧ inb p1 (gN M q1)) (ck (gK M p0 = 2) (bR (gR M p0 1) fun q2 => ck (gK M q2 = 10 ∧ inb p2 (gN M q2)) (nm ((gI M q1 (p1).toNatClampNeg) * (gI M q2 (p2).toNatClampNeg)) fun v3 =>
  ck (gK M p0 = 2) (bR (gR M p0 0) fun q4 => ck (gK M q4 = 10 ∧ inb p2 (gN M q4)) (ck (gK M p0 = 2) (bR (gR M p0 1) fun q5 => ck (gK M q5 = 10 ∧ inb p1 (gN M q5)) (nm ((gI M q4 (p2).toNatClampNeg) * (gI M q5 (p1).toNatClampNeg)) fun v6 =>
  (if v6 < v3 then
    some ((1 : Int32), M)
  else
    (if ¬ v3 = v6 then
      some ((0 : Int32), M)
    else
      (if p2 ≤ p1 then
        some ((0 : Int32), M)
      else
        some ((1 : Int32), M))))))))))))
set_option maxRecDepth 20000 in
set_option maxHeartbeats 4000000 in
theorem t_X2_comesFirst (p0 : Nat) (p1 : Int32) (p2 : Int32) (M : Mm) (x : Int32) (M' : Mm) (h : f_X2_comesFirst p0 p1 p2 M = some (x, M')) : Ctr yX2_comesFirst cX2_comesFirst 5 (some .boolean) rX2_comesFirst (fun _ => [.ref p0, .int p1, .int p2]) M (zI x) M' := by
  refine ctr_of (plainFor_of_name (by decide)) (fun _ => Nat.le_of_ble_eq_true rfl) (fun z hz hin hq => ?_)
  have key : Sim z 0 [(0, .ref p0), (1, .int p1), (2, .int p2)] [] M 0 0 (f_X2_comesFirst p0 p1 p2 M) (fun a b => a = x ∧ b = M') := by
    have hq : Ret z zI (fun a b => a = x ∧ b = M') := fun a b e => by rw [e.1, e.2]; exact hq
    unfold f_X2_comesFirst
    refine r_aload_n hz dX2_comesFirst_0 0 rfl ?_
    refine r_getR (j := 0) cl2 hz dX2_comesFirst_1 (by decide) wm_2_95 rfl (fun q1 => ?_)
    refine r_iload_n hz dX2_comesFirst_4 1 rfl ?_
    refine r_iald hz dX2_comesFirst_5 ?_
    refine r_aload_n hz dX2_comesFirst_6 0 rfl ?_
    refine r_getR (j := 1) cl2 hz dX2_comesFirst_7 (by decide) wm_2_97 rfl (fun q2 => ?_)
    refine r_iload_n hz dX2_comesFirst_10 2 rfl ?_
    refine r_iald hz dX2_comesFirst_11 ?_
    refine r_imul hz dX2_comesFirst_12 ?_
    refine r_nmi (fun v3 => ?_)
    refine r_istore_n (lv' := [(3, .int v3), (0, .ref p0), (1, .int p1), (2, .int p2)]) hz dX2_comesFirst_13 (by decide) rfl ?_
    refine r_aload_n hz dX2_comesFirst_14 1 rfl ?_
    refine r_getR (j := 0) cl2 hz dX2_comesFirst_15 (by decide) wm_2_95 rfl (fun q4 => ?_)
    refine r_iload_n hz dX2_comesFirst_18 3 rfl ?_
    refine r_iald hz dX2_comesFirst_19 ?_
    refine r_aload_n hz dX2_comesFirst_20 1 rfl ?_
    refine r_getR (j := 1) cl2 hz dX2_comesFirst_21 (by decide) wm_2_97 rfl (fun q5 => ?_)
    refine r_iload_n hz dX2_comesFirst_24 2 rfl ?_
    refine r_iald hz dX2_comesFirst_25 ?_
    refine r_imul hz dX2_comesFirst_26 ?_
    refine r_nmi (fun v6 => ?_)
    refine r_istore (lv' := [(4, .int v6), (3, .int v3), (0, .ref p0), (1, .int p1), (2, .int p2)]) hz dX2_comesFirst_27 (by decide) rfl ?_
    refine r_iload_n hz dX2_comesFirst_29 1 rfl ?_
    refine r_iload hz dX2_comesFirst_30 0 rfl ?_
    refine r_icmp_gt (tgt := 46) hz dX2_comesFirst_32 rfl ?_ ?_
    · refine r_iconst (v := 1) hz dX2_comesFirst_46 rfl ?_
      refine r_goto (tgt := 51) hz dX2_comesFirst_47 rfl ?_
      exact r_zret hz hq dX2_comesFirst_51 (Or.inr rfl) (Nat.le_of_ble_eq_true rfl) (Nat.le_of_ble_eq_true rfl)
    · refine r_iload_n hz dX2_comesFirst_35 1 rfl ?_
      refine r_iload hz dX2_comesFirst_36 0 rfl ?_
      refine r_icmp_ne (tgt := 50) hz dX2_comesFirst_38 rfl ?_ ?_
      · refine r_iconst (v := 0) hz dX2_comesFirst_50 rfl ?_
        exact r_zret hz hq dX2_comesFirst_51 (Or.inl rfl) (Nat.le_of_ble_eq_true rfl) (Nat.le_of_ble_eq_true rfl)
      · refine r_iload_n hz dX2_comesFirst_41 3 rfl ?_
        refine r_iload_n hz dX2_comesFirst_42 4 rfl ?_
        refine r_icmp_ge (tgt := 50) hz dX2_comesFirst_43 rfl ?_ ?_
        · refine r_iconst (v := 0) hz dX2_comesFirst_50 rfl ?_
          exact r_zret hz hq dX2_comesFirst_51 (Or.inl rfl) (Nat.le_of_ble_eq_true rfl) (Nat.le_of_ble_eq_true rfl)
        · refine r_iconst (v := 1) hz dX2_comesFirst_46 rfl ?_
          refine r_goto (tgt := 51) hz dX2_comesFirst_47 rfl ?_
          exact r_zret hz hq dX2_comesFirst_51 (Or.inr rfl) (Nat.le_of_ble_eq_true rfl) (Nat.le_of_ble_eq_true rfl)
  exact key x M' h ⟨rfl, rfl⟩
theorem dX2_placeOf_0 : decode cX2_placeOf 0 = .ok (.iconst 0, 1) := by decide +kernel
theorem dX2_placeOf_1 : decode cX2_placeOf 1 = .ok (.istore_n 3, 1) := by decide +kernel
theorem dX2_placeOf_2 : decode cX2_placeOf 2 = .ok (.iconst 0, 1) := by decide +kernel
theorem dX2_placeOf_3 : decode cX2_placeOf 3 = .ok (.istore 4, 2) := by decide +kernel
theorem dX2_placeOf_5 : decode cX2_placeOf 5 = .ok (.iload 4, 2) := by decide +kernel
theorem dX2_placeOf_7 : decode cX2_placeOf 7 = .ok (.iload_n 2, 1) := by decide +kernel
theorem dX2_placeOf_8 : decode cX2_placeOf 8 = .ok (.if_icmp .ge 32, 3) := by decide +kernel
theorem dX2_placeOf_11 : decode cX2_placeOf 11 = .ok (.aload_n 0, 1) := by decide +kernel
theorem dX2_placeOf_12 : decode cX2_placeOf 12 = .ok (.getfield 15, 3) := by decide +kernel
theorem dX2_placeOf_15 : decode cX2_placeOf 15 = .ok (.iload 4, 2) := by decide +kernel
theorem dX2_placeOf_17 : decode cX2_placeOf 17 = .ok (.iaload, 1) := by decide +kernel
theorem dX2_placeOf_18 : decode cX2_placeOf 18 = .ok (.ifCond .le 16, 3) := by decide +kernel
theorem dX2_placeOf_21 : decode cX2_placeOf 21 = .ok (.aload_n 0, 1) := by decide +kernel
theorem dX2_placeOf_22 : decode cX2_placeOf 22 = .ok (.iload 4, 2) := by decide +kernel
theorem dX2_placeOf_24 : decode cX2_placeOf 24 = .ok (.iload_n 1, 1) := by decide +kernel
theorem dX2_placeOf_25 : decode cX2_placeOf 25 = .ok (.invokevirtual 46, 3) := by decide +kernel
theorem dX2_placeOf_28 : decode cX2_placeOf 28 = .ok (.ifCond .eq 6, 3) := by decide +kernel
theorem dX2_placeOf_31 : decode cX2_placeOf 31 = .ok (.iinc 3 1, 3) := by decide +kernel
theorem dX2_placeOf_34 : decode cX2_placeOf 34 = .ok (.iinc 4 1, 3) := by decide +kernel
theorem dX2_placeOf_37 : decode cX2_placeOf 37 = .ok (.goto (-32), 3) := by decide +kernel
theorem dX2_placeOf_40 : decode cX2_placeOf 40 = .ok (.iload_n 3, 1) := by decide +kernel
theorem dX2_placeOf_41 : decode cX2_placeOf 41 = .ok (.ireturn, 1) := by decide +kernel
abbrev rX2_placeOf : Room := { frames := 1, cells := 0, slots := 0, locals := 24 }
theorem cal_X2_placeOf : CalOk yX2_placeOf cX2_placeOf 5 (some .int) 2 := ⟨wm_4_207, wm_1_8, by decide, by decide, by decide +kernel⟩
def f_X2_placeOf_5 : Nat → Nat → Int32 → Int32 → Int32 → Int32 → Mm → Option (Int32 × Mm)
  | 0, _, _, _, _, _, _ => none
  | n + 1, x0, x1, x2, x3, x4, M =>
    (if x2 ≤ x4 then
      some (x3, M)
    else
      ck (gK M x0 = 2) (bR (gR M x0 1) fun q1 => ck (gK M q1 = 10 ∧ inb x4 (gN M q1)) ((if (gI M q1 (x4).toNatClampNeg) ≤ 0 then
        f_X2_placeOf_5 n x0 x1 x2 x3 (x4 + (1 : Int32)) M
      else
        ck (gK M x0 = 2) (bd (f_X2_comesFirst x0 x4 x1 M) fun v4 M3 =>
        (if v4 = 0 then
          f_X2_placeOf_5 n x0 x1 x2 x3 (x4 + (1 : Int32)) M3
        else
          f_X2_placeOf_5 n x0 x1 x2 (x3 + (1 : Int32)) (x4 + (1 : Int32)) M3))))))
set_option maxRecDepth 20000 in
set_option maxHeartbeats 4000000 in
theorem s_X2_placeOf_5 {z : Zt} {K : Int32 → Mm → Prop} (hz : Good z RX2 cX2_placeOf 5 rX2_placeOf (some .int)) (hq : Ret z zI K) : ∀ (n : Nat) (x0 : Nat) (x1 : Int32) (x2 : Int32) (x3 : Int32) (x4 : Int32) (M : Mm), Sim z 5 [(0, .ref x0), (1, .int x1), (2, .int x2), (3, .int x3), (4, .int x4)] [] M 0 0 (f_X2_placeOf_5 n x0 x1 x2 x3 x4 M) K := by
  intro n
  induction n with
  | zero => exact fun _ _ _ _ _ _ => r_none
  | succ n ih =>
    intro x0 x1 x2 x3 x4 M
    unfold f_X2_placeOf_5
    refine r_iload hz dX2_placeOf_5 4 rfl ?_
    refine r_iload_n hz dX2_placeOf_7 2 rfl ?_
    refine r_icmp_ge (tgt := 40) hz dX2_placeOf_8 rfl ?_ ?_
    · refine r_iload_n hz dX2_placeOf_40 3 rfl ?_
      exact r_iret hz hq dX2_placeOf_41 (Nat.le_of_ble_eq_true rfl) (Nat.le_of_ble_eq_true rfl)
    · refine r_aload_n hz dX2_placeOf_11 0 rfl ?_
      refine r_getR (j := 1) cl2 hz dX2_placeOf_12 (by decide) wm_2_97 rfl (fun q1 => ?_)
      refine r_iload hz dX2_placeOf_15 4 rfl ?_
      refine r_iald hz dX2_placeOf_17 ?_
      refine r_if_le (tgt := 34) hz dX2_placeOf_18 rfl ?_ ?_
      · refine r_iinc (v := (x4 + (1 : Int32))) (lv' := [(4, .int (x4 + (1 : Int32))), (0, .ref x0), (1, .int x1), (2, .int x2), (3, .int x3)]) hz dX2_placeOf_34 4 rfl rfl (by decide) rfl ?_
        refine r_goto (tgt := 5) hz dX2_placeOf_37 rfl ?_
        refine r_sub [1, 2, 3, 4, 0] rfl ?_
        exact ih x0 x1 x2 x3 (x4 + (1 : Int32)) M
      · refine r_aload_n hz dX2_placeOf_21 0 rfl ?_
        refine r_iload hz dX2_placeOf_22 4 rfl ?_
        refine r_iload_n hz dX2_placeOf_24 1 rfl ?_
        refine r_callVi (As := fun _ => [.int x4, .int x1]) cl2 hz (fun _ _ h => t_X2_comesFirst _ _ _ _ _ _ h) cal_X2_comesFirst dX2_placeOf_25 wm_4_208 wm_4_210 wm_p_41 rfl rfl (Nat.le_of_ble_eq_true rfl) ⟨(Nat.le_of_ble_eq_true rfl), (Nat.le_of_ble_eq_true rfl)⟩ ⟨(Nat.le_of_ble_eq_true rfl), (Nat.le_of_ble_eq_true rfl)⟩ (fun v4 M3 => ?_)
        refine r_if_eq (tgt := 34) hz dX2_placeOf_28 rfl ?_ ?_
        · refine r_iinc (v := (x4 + (1 : Int32))) (lv' := [(4, .int (x4 + (1 : Int32))), (0, .ref x0), (1, .int x1), (2, .int x2), (3, .int x3)]) hz dX2_placeOf_34 4 rfl rfl (by decide) rfl ?_
          refine r_goto (tgt := 5) hz dX2_placeOf_37 rfl ?_
          refine r_sub [1, 2, 3, 4, 0] rfl ?_
          exact ih x0 x1 x2 x3 (x4 + (1 : Int32)) M3
        · refine r_iinc (v := (x3 + (1 : Int32))) (lv' := [(3, .int (x3 + (1 : Int32))), (0, .ref x0), (1, .int x1), (2, .int x2), (4, .int x4)]) hz dX2_placeOf_31 3 rfl rfl (by decide) rfl ?_
          refine r_iinc (v := (x4 + (1 : Int32))) (lv' := [(4, .int (x4 + (1 : Int32))), (3, .int (x3 + (1 : Int32))), (0, .ref x0), (1, .int x1), (2, .int x2)]) hz dX2_placeOf_34 4 rfl rfl (by decide) rfl ?_
          refine r_goto (tgt := 5) hz dX2_placeOf_37 rfl ?_
          refine r_sub [2, 3, 4, 1, 0] rfl ?_
          exact ih x0 x1 x2 (x3 + (1 : Int32)) (x4 + (1 : Int32)) M3
def f_X2_placeOf (p0 : Nat) (p1 : Int32) (p2 : Int32) (M : Mm) : Option (Int32 × Mm) :=
  f_X2_placeOf_5 FU p0 p1 p2 (0 : Int32) (0 : Int32) M
set_option maxRecDepth 20000 in
set_option maxHeartbeats 4000000 in
theorem t_X2_placeOf (p0 : Nat) (p1 : Int32) (p2 : Int32) (M : Mm) (x : Int32) (M' : Mm) (h : f_X2_placeOf p0 p1 p2 M = some (x, M')) : Ctr yX2_placeOf cX2_placeOf 5 (some .int) rX2_placeOf (fun _ => [.ref p0, .int p1, .int p2]) M (zI x) M' := by
  refine ctr_of (plainFor_of_name (by decide)) (fun _ => Nat.le_of_ble_eq_true rfl) (fun z hz hin hq => ?_)
  have key : Sim z 0 [(0, .ref p0), (1, .int p1), (2, .int p2)] [] M 0 0 (f_X2_placeOf p0 p1 p2 M) (fun a b => a = x ∧ b = M') := by
    have hq : Ret z zI (fun a b => a = x ∧ b = M') := fun a b e => by rw [e.1, e.2]; exact hq
    unfold f_X2_placeOf
    refine r_iconst (v := 0) hz dX2_placeOf_0 rfl ?_
    refine r_istore_n (lv' := [(3, .int (0 : Int32)), (0, .ref p0), (1, .int p1), (2, .int p2)]) hz dX2_placeOf_1 (by decide) rfl ?_
    refine r_iconst (v := 0) hz dX2_placeOf_2 rfl ?_
    refine r_istore (lv' := [(4, .int (0 : Int32)), (3, .int (0 : Int32)), (0, .ref p0), (1, .int p1), (2, .int p2)]) hz dX2_placeOf_3 (by decide) rfl ?_
    refine r_sub [2, 3, 4, 1, 0] rfl ?_
    exact s_X2_placeOf_5 hz hq FU p0 p1 p2 (0 : Int32) (0 : Int32) M
  exact key x M' h ⟨rfl, rfl⟩
theorem dX6_init_0 : decode cX6_init 0 = .ok (.aload_n 0, 1) := by decide +kernel
theorem dX6_init_1 : decode cX6_init 1 = .ok (.invokespecial 3, 3) := by decide +kernel
theorem dX6_init_4 : decode cX6_init 4 = .ok (.aload_n 0, 1) := by decide +kernel
theorem dX6_init_5 : decode cX6_init 5 = .ok (.iconst 0, 1) := by decide +kernel
theorem dX6_init_6 : decode cX6_init 6 = .ok (.putfield 9, 3) := by decide +kernel
theorem dX6_init_9 : decode cX6_init 9 = .ok (.aload_n 0, 1) := by decide +kernel
theorem dX6_init_10 : decode cX6_init 10 = .ok (.iconst 0, 1) := by decide +kernel
theorem dX6_init_11 : decode cX6_init 11 = .ok (.putfield 15, 3) := by decide +kernel
theorem dX6_init_14 : decode cX6_init 14 = .ok (.aload_n 0, 1) := by decide +kernel
theorem dX6_init_15 : decode cX6_init 15 = .ok (.iconst 0, 1) := by decide +kernel
theorem dX6_init_16 : decode cX6_init 16 = .ok (.putfield 18, 3) := by decide +kernel
theorem dX6_init_19 : decode cX6_init 19 = .ok (.aload_n 0, 1) := by decide +kernel
theorem dX6_init_20 : decode cX6_init 20 = .ok (.iconst 0, 1) := by decide +kernel
theorem dX6_init_21 : decode cX6_init 21 = .ok (.putfield 21, 3) := by decide +kernel
theorem dX6_init_24 : decode cX6_init 24 = .ok (.aload_n 0, 1) := by decide +kernel
theorem dX6_init_25 : decode cX6_init 25 = .ok (.iconst 0, 1) := by decide +kernel
theorem dX6_init_26 : decode cX6_init 26 = .ok (.putfield 24, 3) := by decide +kernel
theorem dX6_init_29 : decode cX6_init 29 = .ok (.aload_n 0, 1) := by decide +kernel
theorem dX6_init_30 : decode cX6_init 30 = .ok (.iconst 4, 1) := by decide +kernel
theorem dX6_init_31 : decode cX6_init 31 = .ok (.newarray .int, 2) := by decide +kernel
theorem dX6_init_33 : decode cX6_init 33 = .ok (.putfield 27, 3) := by decide +kernel
theorem dX6_init_36 : decode cX6_init 36 = .ok (.aload_n 0, 1) := by decide +kernel
theorem dX6_init_37 : decode cX6_init 37 = .ok (.iconst 4, 1) := by decide +kernel
theorem dX6_init_38 : decode cX6_init 38 = .ok (.newarray .int, 2) := by decide +kernel
theorem dX6_init_40 : decode cX6_init 40 = .ok (.putfield 31, 3) := by decide +kernel
theorem dX6_init_43 : decode cX6_init 43 = .ok (.aload_n 0, 1) := by decide +kernel
theorem dX6_init_44 : decode cX6_init 44 = .ok (.iconst 4, 1) := by decide +kernel
theorem dX6_init_45 : decode cX6_init 45 = .ok (.newarray .int, 2) := by decide +kernel
theorem dX6_init_47 : decode cX6_init 47 = .ok (.putfield 34, 3) := by decide +kernel
theorem dX6_init_50 : decode cX6_init 50 = .ok (.aload_n 0, 1) := by decide +kernel
theorem dX6_init_51 : decode cX6_init 51 = .ok (.iconst 4, 1) := by decide +kernel
theorem dX6_init_52 : decode cX6_init 52 = .ok (.newarray .int, 2) := by decide +kernel
theorem dX6_init_54 : decode cX6_init 54 = .ok (.putfield 37, 3) := by decide +kernel
theorem dX6_init_57 : decode cX6_init 57 = .ok (.aload_n 0, 1) := by decide +kernel
theorem dX6_init_58 : decode cX6_init 58 = .ok (.iconst 4, 1) := by decide +kernel
theorem dX6_init_59 : decode cX6_init 59 = .ok (.newarray .int, 2) := by decide +kernel
theorem dX6_init_61 : decode cX6_init 61 = .ok (.putfield 40, 3) := by decide +kernel
theorem dX6_init_64 : decode cX6_init 64 = .ok (.aload_n 0, 1) := by decide +kernel
theorem dX6_init_65 : decode cX6_init 65 = .ok (.iconst 4, 1) := by decide +kernel
theorem dX6_init_66 : decode cX6_init 66 = .ok (.newarray .int, 2) := by decide +kernel
theorem dX6_init_68 : decode cX6_init 68 = .ok (.putfield 43, 3) := by decide +kernel
theorem dX6_init_71 : decode cX6_init 71 = .ok (.aload_n 0, 1) := by decide +kernel
theorem dX6_init_72 : decode cX6_init 72 = .ok (.iconst 4, 1) := by decide +kernel
theorem dX6_init_73 : decode cX6_init 73 = .ok (.newarray .int, 2) := by decide +kernel
theorem dX6_init_75 : decode cX6_init 75 = .ok (.putfield 46, 3) := by decide +kernel
theorem dX6_init_78 : decode cX6_init 78 = .ok (.aload_n 0, 1) := by decide +kernel
theorem dX6_init_79 : decode cX6_init 79 = .ok (.iconst 4, 1) := by decide +kernel
theorem dX6_init_80 : decode cX6_init 80 = .ok (.newarray .int, 2) := by decide +kernel
theorem dX6_init_82 : decode cX6_init 82 = .ok (.putfield 49, 3) := by decide +kernel
theorem dX6_init_85 : decode cX6_init 85 = .ok (.aload_n 0, 1) := by decide +kernel
theorem dX6_init_86 : decode cX6_init 86 = .ok (.bipush 6, 2) := by decide +kernel
theorem dX6_init_88 : decode cX6_init 88 = .ok (.newarray .int, 2) := by decide +kernel
theorem dX6_init_90 : decode cX6_init 90 = .ok (.putfield 52, 3) := by decide +kernel
theorem dX6_init_93 : decode cX6_init 93 = .ok (.aload_n 0, 1) := by decide +kernel
theorem dX6_init_94 : decode cX6_init 94 = .ok (.bipush 6, 2) := by decide +kernel
theorem dX6_init_96 : decode cX6_init 96 = .ok (.newarray .int, 2) := by decide +kernel
theorem dX6_init_98 : decode cX6_init 98 = .ok (.putfield 55, 3) := by decide +kernel
theorem dX6_init_101 : decode cX6_init 101 = .ok (.aload_n 0, 1) := by decide +kernel
theorem dX6_init_102 : decode cX6_init 102 = .ok (.sipush 240, 3) := by decide +kernel
theorem dX6_init_105 : decode cX6_init 105 = .ok (.newarray .int, 2) := by decide +kernel
theorem dX6_init_107 : decode cX6_init 107 = .ok (.putfield 58, 3) := by decide +kernel
theorem dX6_init_110 : decode cX6_init 110 = .ok (.aload_n 0, 1) := by decide +kernel
theorem dX6_init_111 : decode cX6_init 111 = .ok (.bipush 40, 2) := by decide +kernel
theorem dX6_init_113 : decode cX6_init 113 = .ok (.newarray .int, 2) := by decide +kernel
theorem dX6_init_115 : decode cX6_init 115 = .ok (.putfield 61, 3) := by decide +kernel
theorem dX6_init_118 : decode cX6_init 118 = .ok (.aload_n 0, 1) := by decide +kernel
theorem dX6_init_119 : decode cX6_init 119 = .ok (.bipush 84, 2) := by decide +kernel
theorem dX6_init_121 : decode cX6_init 121 = .ok (.newarray .int, 2) := by decide +kernel
theorem dX6_init_123 : decode cX6_init 123 = .ok (.putfield 64, 3) := by decide +kernel
theorem dX6_init_126 : decode cX6_init 126 = .ok (.return_, 1) := by decide +kernel
abbrev rX6_init : Room := { frames := 1, cells := 13, slots := 408, locals := 20 }
theorem cal_X6_init : CalOk yX6_init cX6_init 1 none 0 := ⟨wm_1_33, wm_1_2, by decide, by decide, by decide +kernel⟩
def f_X6_init (p0 : Nat) (M : Mm) : Option (Unit × Mm) :=
  ck (gK M p0 = 6) (nm (sI M p0 0 (0 : Int32)) fun M1 =>
  ck (gK M1 p0 = 6) (nm (sI M1 p0 1 (0 : Int32)) fun M2 =>
  ck (gK M2 p0 = 6) (nm (sI M2 p0 2 (0 : Int32)) fun M3 =>
  ck (gK M3 p0 = 6) (nm (sI M3 p0 3 (0 : Int32)) fun M4 =>
  ck (gK M4 p0 = 6) (nm (sI M4 p0 4 (0 : Int32)) fun M5 =>
  nm (gT M5) fun q6 => nm (sN M5 10 4) fun M7 =>
  ck (gK M7 p0 = 6) (nm (sR M7 p0 5 (some q6)) fun M8 =>
  nm (gT M8) fun q9 => nm (sN M8 10 4) fun M10 =>
  ck (gK M10 p0 = 6) (nm (sR M10 p0 6 (some q9)) fun M11 =>
  nm (gT M11) fun q12 => nm (sN M11 10 4) fun M13 =>
  ck (gK M13 p0 = 6) (nm (sR M13 p0 7 (some q12)) fun M14 =>
  nm (gT M14) fun q15 => nm (sN M14 10 4) fun M16 =>
  ck (gK M16 p0 = 6) (nm (sR M16 p0 8 (some q15)) fun M17 =>
  nm (gT M17) fun q18 => nm (sN M17 10 4) fun M19 =>
  ck (gK M19 p0 = 6) (nm (sR M19 p0 9 (some q18)) fun M20 =>
  nm (gT M20) fun q21 => nm (sN M20 10 4) fun M22 =>
  ck (gK M22 p0 = 6) (nm (sR M22 p0 10 (some q21)) fun M23 =>
  nm (gT M23) fun q24 => nm (sN M23 10 4) fun M25 =>
  ck (gK M25 p0 = 6) (nm (sR M25 p0 11 (some q24)) fun M26 =>
  nm (gT M26) fun q27 => nm (sN M26 10 4) fun M28 =>
  ck (gK M28 p0 = 6) (nm (sR M28 p0 12 (some q27)) fun M29 =>
  nm (gT M29) fun q30 => nm (sN M29 10 6) fun M31 =>
  ck (gK M31 p0 = 6) (nm (sR M31 p0 13 (some q30)) fun M32 =>
  nm (gT M32) fun q33 => nm (sN M32 10 6) fun M34 =>
  ck (gK M34 p0 = 6) (nm (sR M34 p0 14 (some q33)) fun M35 =>
  nm (gT M35) fun q36 => nm (sN M35 10 240) fun M37 =>
  ck (gK M37 p0 = 6) (nm (sR M37 p0 15 (some q36)) fun M38 =>
  nm (gT M38) fun q39 => nm (sN M38 10 40) fun M40 =>
  ck (gK M40 p0 = 6) (nm (sR M40 p0 16 (some q39)) fun M41 =>
  nm (gT M41) fun q42 => nm (sN M41 10 84) fun M43 =>
  ck (gK M43 p0 = 6) (nm (sR M43 p0 17 (some q42)) fun M44 =>
  some ((), M44)))))))))))))))))))
set_option maxRecDepth 20000 in
set_option maxHeartbeats 4000000 in
theorem t_X6_init (p0 : Nat) (M : Mm) (x : Unit) (M' : Mm) (h : f_X6_init p0 M = some (x, M')) : Ctr yX6_init cX6_init 1 none rX6_init (fun _ => [.ref p0]) M (zU x) M' := by
  refine ctr_of (plainFor_of_name (by decide)) (fun _ => Nat.le_of_ble_eq_true rfl) (fun z hz hin hq => ?_)
  have key : Sim z 0 [(0, .ref p0)] [] M 0 0 (f_X6_init p0 M) (fun a b => a = x ∧ b = M') := by
    have hq : Ret z zU (fun a b => a = x ∧ b = M') := fun a b e => by rw [e.1, e.2]; exact hq
    have hin := hin rfl
    unfold f_X6_init
    refine r_aload_n hz dX6_init_0 0 rfl ?_
    refine r_objInit hz dX6_init_1 wm_1_34 wm_1_27 wm_1_28 (Nat.le_of_ble_eq_true rfl) (Nat.le_of_ble_eq_true rfl) ?_
    refine r_aload_n hz dX6_init_4 0 rfl ?_
    refine r_iconst (v := 0) hz dX6_init_5 rfl ?_
    refine r_putI (j := 0) cl6 hz dX6_init_6 (by decide) wm_1_35 (Or.inl rfl) rfl rfl rfl ?_
    refine r_nmM (fun M1 => ?_)
    refine r_aload_n hz dX6_init_9 0 rfl ?_
    refine r_iconst (v := 0) hz dX6_init_10 rfl ?_
    refine r_putI (j := 1) cl6 hz dX6_init_11 (by decide) wm_1_40 (Or.inl rfl) rfl rfl rfl ?_
    refine r_nmM (fun M2 => ?_)
    refine r_aload_n hz dX6_init_14 0 rfl ?_
    refine r_iconst (v := 0) hz dX6_init_15 rfl ?_
    refine r_putI (j := 2) cl6 hz dX6_init_16 (by decide) wm_1_43 (Or.inl rfl) rfl rfl rfl ?_
    refine r_nmM (fun M3 => ?_)
    refine r_aload_n hz dX6_init_19 0 rfl ?_
    refine r_iconst (v := 0) hz dX6_init_20 rfl ?_
    refine r_putI (j := 3) cl6 hz dX6_init_21 (by decide) wm_1_45 (Or.inl rfl) rfl rfl rfl ?_
    refine r_nmM (fun M4 => ?_)
    refine r_aload_n hz dX6_init_24 0 rfl ?_
    refine r_iconst (v := 0) hz dX6_init_25 rfl ?_
    refine r_putI (j := 4) cl6 hz dX6_init_26 (by decide) wm_1_47 (Or.inl rfl) rfl rfl rfl ?_
    refine r_nmM (fun M5 => ?_)
    refine r_aload_n hz dX6_init_29 0 rfl ?_
    refine r_iconst (v := 4) hz dX6_init_30 rfl ?_
    refine r_newI (len := 4) hz dX6_init_31 wm_1_133 rfl (by decide) (Nat.le_of_ble_eq_true rfl) (Nat.le_of_ble_eq_true rfl) (Nat.le_of_ble_eq_true rfl) ?_
    refine r_nma (fun q6 => ?_)
    refine r_nmM (fun M7 => ?_)
    refine r_putR (j := 5) cl6 hz dX6_init_33 (by decide) wm_1_49 (Or.inr ⟨rfl, hin⟩) rfl rfl rfl ?_
    refine r_nmM (fun M8 => ?_)
    refine r_aload_n hz dX6_init_36 0 rfl ?_
    refine r_iconst (v := 4) hz dX6_init_37 rfl ?_
    refine r_newI (len := 4) hz dX6_init_38 wm_1_133 rfl (by decide) (Nat.le_of_ble_eq_true rfl) (Nat.le_of_ble_eq_true rfl) (Nat.le_of_ble_eq_true rfl) ?_
    refine r_nma (fun q9 => ?_)
    refine r_nmM (fun M10 => ?_)
    refine r_putR (j := 6) cl6 hz dX6_init_40 (by decide) wm_1_51 (Or.inr ⟨rfl, hin⟩) rfl rfl rfl ?_
    refine r_nmM (fun M11 => ?_)
    refine r_aload_n hz dX6_init_43 0 rfl ?_
    refine r_iconst (v := 4) hz dX6_init_44 rfl ?_
    refine r_newI (len := 4) hz dX6_init_45 wm_1_133 rfl (by decide) (Nat.le_of_ble_eq_true rfl) (Nat.le_of_ble_eq_true rfl) (Nat.le_of_ble_eq_true rfl) ?_
    refine r_nma (fun q12 => ?_)
    refine r_nmM (fun M13 => ?_)
    refine r_putR (j := 7) cl6 hz dX6_init_47 (by decide) wm_1_58 (Or.inr ⟨rfl, hin⟩) rfl rfl rfl ?_
    refine r_nmM (fun M14 => ?_)
    refine r_aload_n hz dX6_init_50 0 rfl ?_
    refine r_iconst (v := 4) hz dX6_init_51 rfl ?_
    refine r_newI (len := 4) hz dX6_init_52 wm_1_133 rfl (by decide) (Nat.le_of_ble_eq_true rfl) (Nat.le_of_ble_eq_true rfl) (Nat.le_of_ble_eq_true rfl) ?_
    refine r_nma (fun q15 => ?_)
    refine r_nmM (fun M16 => ?_)
    refine r_putR (j := 8) cl6 hz dX6_init_54 (by decide) wm_1_63 (Or.inr ⟨rfl, hin⟩) rfl rfl rfl ?_
    refine r_nmM (fun M17 => ?_)
    refine r_aload_n hz dX6_init_57 0 rfl ?_
    refine r_iconst (v := 4) hz dX6_init_58 rfl ?_
    refine r_newI (len := 4) hz dX6_init_59 wm_1_133 rfl (by decide) (Nat.le_of_ble_eq_true rfl) (Nat.le_of_ble_eq_true rfl) (Nat.le_of_ble_eq_true rfl) ?_
    refine r_nma (fun q18 => ?_)
    refine r_nmM (fun M19 => ?_)
    refine r_putR (j := 9) cl6 hz dX6_init_61 (by decide) wm_1_67 (Or.inr ⟨rfl, hin⟩) rfl rfl rfl ?_
    refine r_nmM (fun M20 => ?_)
    refine r_aload_n hz dX6_init_64 0 rfl ?_
    refine r_iconst (v := 4) hz dX6_init_65 rfl ?_
    refine r_newI (len := 4) hz dX6_init_66 wm_1_133 rfl (by decide) (Nat.le_of_ble_eq_true rfl) (Nat.le_of_ble_eq_true rfl) (Nat.le_of_ble_eq_true rfl) ?_
    refine r_nma (fun q21 => ?_)
    refine r_nmM (fun M22 => ?_)
    refine r_putR (j := 10) cl6 hz dX6_init_68 (by decide) wm_1_72 (Or.inr ⟨rfl, hin⟩) rfl rfl rfl ?_
    refine r_nmM (fun M23 => ?_)
    refine r_aload_n hz dX6_init_71 0 rfl ?_
    refine r_iconst (v := 4) hz dX6_init_72 rfl ?_
    refine r_newI (len := 4) hz dX6_init_73 wm_1_133 rfl (by decide) (Nat.le_of_ble_eq_true rfl) (Nat.le_of_ble_eq_true rfl) (Nat.le_of_ble_eq_true rfl) ?_
    refine r_nma (fun q24 => ?_)
    refine r_nmM (fun M25 => ?_)
    refine r_putR (j := 11) cl6 hz dX6_init_75 (by decide) wm_1_76 (Or.inr ⟨rfl, hin⟩) rfl rfl rfl ?_
    refine r_nmM (fun M26 => ?_)
    refine r_aload_n hz dX6_init_78 0 rfl ?_
    refine r_iconst (v := 4) hz dX6_init_79 rfl ?_
    refine r_newI (len := 4) hz dX6_init_80 wm_1_133 rfl (by decide) (Nat.le_of_ble_eq_true rfl) (Nat.le_of_ble_eq_true rfl) (Nat.le_of_ble_eq_true rfl) ?_
    refine r_nma (fun q27 => ?_)
    refine r_nmM (fun M28 => ?_)
    refine r_putR (j := 12) cl6 hz dX6_init_82 (by decide) wm_1_80 (Or.inr ⟨rfl, hin⟩) rfl rfl rfl ?_
    refine r_nmM (fun M29 => ?_)
    refine r_aload_n hz dX6_init_85 0 rfl ?_
    refine r_bipush (v := 6) hz dX6_init_86 rfl ?_
    refine r_newI (len := 6) hz dX6_init_88 wm_1_133 rfl (by decide) (Nat.le_of_ble_eq_true rfl) (Nat.le_of_ble_eq_true rfl) (Nat.le_of_ble_eq_true rfl) ?_
    refine r_nma (fun q30 => ?_)
    refine r_nmM (fun M31 => ?_)
    refine r_putR (j := 13) cl6 hz dX6_init_90 (by decide) wm_1_83 (Or.inr ⟨rfl, hin⟩) rfl rfl rfl ?_
    refine r_nmM (fun M32 => ?_)
    refine r_aload_n hz dX6_init_93 0 rfl ?_
    refine r_bipush (v := 6) hz dX6_init_94 rfl ?_
    refine r_newI (len := 6) hz dX6_init_96 wm_1_133 rfl (by decide) (Nat.le_of_ble_eq_true rfl) (Nat.le_of_ble_eq_true rfl) (Nat.le_of_ble_eq_true rfl) ?_
    refine r_nma (fun q33 => ?_)
    refine r_nmM (fun M34 => ?_)
    refine r_putR (j := 14) cl6 hz dX6_init_98 (by decide) wm_1_85 (Or.inr ⟨rfl, hin⟩) rfl rfl rfl ?_
    refine r_nmM (fun M35 => ?_)
    refine r_aload_n hz dX6_init_101 0 rfl ?_
    refine r_sipush (v := 240) hz dX6_init_102 rfl ?_
    refine r_newI (len := 240) hz dX6_init_105 wm_1_133 rfl (by decide) (Nat.le_of_ble_eq_true rfl) (Nat.le_of_ble_eq_true rfl) (Nat.le_of_ble_eq_true rfl) ?_
    refine r_nma (fun q36 => ?_)
    refine r_nmM (fun M37 => ?_)
    refine r_putR (j := 15) cl6 hz dX6_init_107 (by decide) wm_1_88 (Or.inr ⟨rfl, hin⟩) rfl rfl rfl ?_
    refine r_nmM (fun M38 => ?_)
    refine r_aload_n hz dX6_init_110 0 rfl ?_
    refine r_bipush (v := 40) hz dX6_init_111 rfl ?_
    refine r_newI (len := 40) hz dX6_init_113 wm_1_133 rfl (by decide) (Nat.le_of_ble_eq_true rfl) (Nat.le_of_ble_eq_true rfl) (Nat.le_of_ble_eq_true rfl) ?_
    refine r_nma (fun q39 => ?_)
    refine r_nmM (fun M40 => ?_)
    refine r_putR (j := 16) cl6 hz dX6_init_115 (by decide) wm_1_90 (Or.inr ⟨rfl, hin⟩) rfl rfl rfl ?_
    refine r_nmM (fun M41 => ?_)
    refine r_aload_n hz dX6_init_118 0 rfl ?_
    refine r_bipush (v := 84) hz dX6_init_119 rfl ?_
    refine r_newI (len := 84) hz dX6_init_121 wm_1_133 rfl (by decide) (Nat.le_of_ble_eq_true rfl) (Nat.le_of_ble_eq_true rfl) (Nat.le_of_ble_eq_true rfl) ?_
    refine r_nma (fun q42 => ?_)
    refine r_nmM (fun M43 => ?_)
    refine r_putR (j := 17) cl6 hz dX6_init_123 (by decide) wm_1_93 (Or.inr ⟨rfl, hin⟩) rfl rfl rfl ?_
    refine r_nmM (fun M44 => ?_)
    exact r_vret hz hq dX6_init_126 (Nat.le_of_ble_eq_true rfl) (Nat.le_of_ble_eq_true rfl)
  exact key x M' h ⟨rfl, rfl⟩
