theorem dX7_countImages_0 : decode cX7_countImages 0 = .ok (.iconst 0, 1) := by decide +kernel
theorem dX7_countImages_1 : decode cX7_countImages 1 = .ok (.istore_n 1, 1) := by decide +kernel
theorem dX7_countImages_2 : decode cX7_countImages 2 = .ok (.iconst 0, 1) := by decide +kernel
theorem dX7_countImages_3 : decode cX7_countImages 3 = .ok (.istore_n 2, 1) := by decide +kernel
theorem dX7_countImages_4 : decode cX7_countImages 4 = .ok (.iload_n 2, 1) := by decide +kernel
theorem dX7_countImages_5 : decode cX7_countImages 5 = .ok (.iconst 2, 1) := by decide +kernel
theorem dX7_countImages_6 : decode cX7_countImages 6 = .ok (.if_icmp .ge 21, 3) := by decide +kernel
theorem dX7_countImages_9 : decode cX7_countImages 9 = .ok (.aload_n 0, 1) := by decide +kernel
theorem dX7_countImages_10 : decode cX7_countImages 10 = .ok (.getfield 34, 3) := by decide +kernel
theorem dX7_countImages_13 : decode cX7_countImages 13 = .ok (.iload_n 2, 1) := by decide +kernel
theorem dX7_countImages_14 : decode cX7_countImages 14 = .ok (.baload, 1) := by decide +kernel
theorem dX7_countImages_15 : decode cX7_countImages 15 = .ok (.ifCond .eq 6, 3) := by decide +kernel
theorem dX7_countImages_18 : decode cX7_countImages 18 = .ok (.iinc 1 1, 3) := by decide +kernel
theorem dX7_countImages_21 : decode cX7_countImages 21 = .ok (.iinc 2 1, 3) := by decide +kernel
theorem dX7_countImages_24 : decode cX7_countImages 24 = .ok (.goto (-20), 3) := by decide +kernel
theorem dX7_countImages_27 : decode cX7_countImages 27 = .ok (.iload_n 1, 1) := by decide +kernel
theorem dX7_countImages_28 : decode cX7_countImages 28 = .ok (.ireturn, 1) := by decide +kernel
abbrev rX7_countImages : Room := { frames := 0, cells := 0, slots := 0, locals := 0 }
theorem cal_X7_countImages : CalOk yX7_countImages cX7_countImages 3 (some .int) 0 := ⟨wm_3_127, wm_1_1, by decide, by decide, by decide +kernel⟩
def f_X7_countImages_4 : Nat → Nat → Int32 → Int32 → Mm → Option (Int32 × Mm)
  | 0, _, _, _, _ => none
  | n + 1, x0, x1, x2, M =>
    (if (2 : Int32) ≤ x2 then
      some (x1, M)
    else
      ck (gK M x0 = 7) (bR (gR M x0 5) fun q1 => ck (gK M q1 = 11 ∧ inb x2 (gN M q1)) ((if (gI M q1 (x2).toNatClampNeg) = 0 then
        f_X7_countImages_4 n x0 x1 (x2 + (1 : Int32)) M
      else
        f_X7_countImages_4 n x0 (x1 + (1 : Int32)) (x2 + (1 : Int32)) M))))
set_option maxRecDepth 20000 in
set_option maxHeartbeats 4000000 in
theorem s_X7_countImages_4 {z : Zt} {K : Int32 → Mm → Prop} (hz : Good z RX7 cX7_countImages 3 rX7_countImages (some .int)) (hq : Ret z zI K) : ∀ (n : Nat) (x0 : Nat) (x1 : Int32) (x2 : Int32) (M : Mm), Sim z 4 [(0, .ref x0), (1, .int x1), (2, .int x2)] [] M 0 0 (f_X7_countImages_4 n x0 x1 x2 M) K := by
  intro n
  induction n with
  | zero => exact fun _ _ _ _ => r_none
  | succ n ih =>
    intro x0 x1 x2 M
    unfold f_X7_countImages_4
    refine r_iload_n hz dX7_countImages_4 2 rfl ?_
    refine r_iconst (v := 2) hz dX7_countImages_5 rfl ?_
    refine r_icmp_ge (tgt := 27) hz dX7_countImages_6 rfl ?_ ?_
    · refine r_iload_n hz dX7_countImages_27 1 rfl ?_
      exact r_iret hz hq dX7_countImages_28 (Nat.le_of_ble_eq_true rfl) (Nat.le_of_ble_eq_true rfl)
    · refine r_aload_n hz dX7_countImages_9 0 rfl ?_
      refine r_getR (j := 5) cl7 hz dX7_countImages_10 (by decide) wm_2_109 rfl (fun q1 => ?_)
      refine r_iload_n hz dX7_countImages_13 2 rfl ?_
      refine r_zald hz dX7_countImages_14 ?_
      refine r_if_eq (tgt := 21) hz dX7_countImages_15 rfl ?_ ?_
      · refine r_iinc (v := (x2 + (1 : Int32))) (lv' := [(2, .int (x2 + (1 : Int32))), (0, .ref x0), (1, .int x1)]) hz dX7_countImages_21 2 rfl rfl (by decide) rfl ?_
        refine r_goto (tgt := 4) hz dX7_countImages_24 rfl ?_
        refine r_sub [1, 2, 0] rfl ?_
        exact ih x0 x1 (x2 + (1 : Int32)) M
      · refine r_iinc (v := (x1 + (1 : Int32))) (lv' := [(1, .int (x1 + (1 : Int32))), (0, .ref x0), (2, .int x2)]) hz dX7_countImages_18 1 rfl rfl (by decide) rfl ?_
        refine r_iinc (v := (x2 + (1 : Int32))) (lv' := [(2, .int (x2 + (1 : Int32))), (1, .int (x1 + (1 : Int32))), (0, .ref x0)]) hz dX7_countImages_21 2 rfl rfl (by decide) rfl ?_
        refine r_goto (tgt := 4) hz dX7_countImages_24 rfl ?_
        refine r_sub [2, 1, 0] rfl ?_
        exact ih x0 (x1 + (1 : Int32)) (x2 + (1 : Int32)) M
def f_X7_countImages (p0 : Nat) (M : Mm) : Option (Int32 × Mm) :=
  f_X7_countImages_4 FU p0 (0 : Int32) (0 : Int32) M
set_option maxRecDepth 20000 in
set_option maxHeartbeats 4000000 in
theorem t_X7_countImages (p0 : Nat) (M : Mm) (x : Int32) (M' : Mm) (h : f_X7_countImages p0 M = some (x, M')) : Ctr yX7_countImages cX7_countImages 3 (some .int) rX7_countImages (fun _ => [.ref p0]) M (zI x) M' := by
  refine ctr_of (plainFor_of_name (by decide)) (fun _ => Nat.le_of_ble_eq_true rfl) (fun z hz hin hq => ?_)
  have key : Sim z 0 [(0, .ref p0)] [] M 0 0 (f_X7_countImages p0 M) (fun a b => a = x ∧ b = M') := by
    have hq : Ret z zI (fun a b => a = x ∧ b = M') := fun a b e => by rw [e.1, e.2]; exact hq
    unfold f_X7_countImages
    refine r_iconst (v := 0) hz dX7_countImages_0 rfl ?_
    refine r_istore_n (lv' := [(1, .int (0 : Int32)), (0, .ref p0)]) hz dX7_countImages_1 (by decide) rfl ?_
    refine r_iconst (v := 0) hz dX7_countImages_2 rfl ?_
    refine r_istore_n (lv' := [(2, .int (0 : Int32)), (1, .int (0 : Int32)), (0, .ref p0)]) hz dX7_countImages_3 (by decide) rfl ?_
    refine r_sub [2, 1, 0] rfl ?_
    exact s_X7_countImages_4 hz hq FU p0 (0 : Int32) (0 : Int32) M
  exact key x M' h ⟨rfl, rfl⟩
theorem dX7_countOfAllLoans_0 : decode cX7_countOfAllLoans 0 = .ok (.iconst 0, 1) := by decide +kernel
theorem dX7_countOfAllLoans_1 : decode cX7_countOfAllLoans 1 = .ok (.istore_n 2, 1) := by decide +kernel
theorem dX7_countOfAllLoans_2 : decode cX7_countOfAllLoans 2 = .ok (.iconst 0, 1) := by decide +kernel
theorem dX7_countOfAllLoans_3 : decode cX7_countOfAllLoans 3 = .ok (.istore_n 3, 1) := by decide +kernel
theorem dX7_countOfAllLoans_4 : decode cX7_countOfAllLoans 4 = .ok (.iload_n 3, 1) := by decide +kernel
theorem dX7_countOfAllLoans_5 : decode cX7_countOfAllLoans 5 = .ok (.aload_n 0, 1) := by decide +kernel
theorem dX7_countOfAllLoans_6 : decode cX7_countOfAllLoans 6 = .ok (.getfield 10, 3) := by decide +kernel
theorem dX7_countOfAllLoans_9 : decode cX7_countOfAllLoans 9 = .ok (.getfield 96, 3) := by decide +kernel
theorem dX7_countOfAllLoans_12 : decode cX7_countOfAllLoans 12 = .ok (.if_icmp .ge 25, 3) := by decide +kernel
theorem dX7_countOfAllLoans_15 : decode cX7_countOfAllLoans 15 = .ok (.iload_n 2, 1) := by decide +kernel
theorem dX7_countOfAllLoans_16 : decode cX7_countOfAllLoans 16 = .ok (.aload_n 0, 1) := by decide +kernel
theorem dX7_countOfAllLoans_17 : decode cX7_countOfAllLoans 17 = .ok (.getfield 19, 3) := by decide +kernel
theorem dX7_countOfAllLoans_20 : decode cX7_countOfAllLoans 20 = .ok (.aload_n 0, 1) := by decide +kernel
theorem dX7_countOfAllLoans_21 : decode cX7_countOfAllLoans 21 = .ok (.getfield 10, 3) := by decide +kernel
theorem dX7_countOfAllLoans_24 : decode cX7_countOfAllLoans 24 = .ok (.iload_n 3, 1) := by decide +kernel
theorem dX7_countOfAllLoans_25 : decode cX7_countOfAllLoans 25 = .ok (.iload_n 1, 1) := by decide +kernel
theorem dX7_countOfAllLoans_26 : decode cX7_countOfAllLoans 26 = .ok (.invokevirtual 112, 3) := by decide +kernel
theorem dX7_countOfAllLoans_29 : decode cX7_countOfAllLoans 29 = .ok (.iadd, 1) := by decide +kernel
theorem dX7_countOfAllLoans_30 : decode cX7_countOfAllLoans 30 = .ok (.istore_n 2, 1) := by decide +kernel
theorem dX7_countOfAllLoans_31 : decode cX7_countOfAllLoans 31 = .ok (.iinc 3 1, 3) := by decide +kernel
theorem dX7_countOfAllLoans_34 : decode cX7_countOfAllLoans 34 = .ok (.goto (-30), 3) := by decide +kernel
theorem dX7_countOfAllLoans_37 : decode cX7_countOfAllLoans 37 = .ok (.iload_n 2, 1) := by decide +kernel
theorem dX7_countOfAllLoans_38 : decode cX7_countOfAllLoans 38 = .ok (.ireturn, 1) := by decide +kernel
abbrev rX7_countOfAllLoans : Room := { frames := 2, cells := 0, slots := 0, locals := 46 }
theorem cal_X7_countOfAllLoans : CalOk yX7_countOfAllLoans cX7_countOfAllLoans 4 (some .int) 1 := ⟨wm_3_131, wm_1_1, by decide, by decide, by decide +kernel⟩
def f_X7_countOfAllLoans_4 : Nat → Nat → Int32 → Int32 → Int32 → Mm → Option (Int32 × Mm)
  | 0, _, _, _, _, _ => none
  | n + 1, x0, x1, x2, x3, M =>
    ck (gK M x0 = 7) (bR (gR M x0 0) fun q1 => ck (gK M q1 = 6) ((if (gI M q1 0) ≤ x3 then
      some (x2, M)
    else
      ck (gK M x0 = 7) (bR (gR M x0 1) fun q2 => ck (gK M x0 = 7) (bR (gR M x0 0) fun q3 => ck (gK M q2 = 5) (bd (f_X5_countBonds q2 q3 x3 x1 M) fun v5 M4 =>
      nm (x2 + v5) fun v6 =>
      f_X7_countOfAllLoans_4 n x0 x1 v6 (x3 + (1 : Int32)) M4))))))
set_option maxRecDepth 20000 in
set_option maxHeartbeats 4000000 in
theorem s_X7_countOfAllLoans_4 {z : Zt} {K : Int32 → Mm → Prop} (hz : Good z RX7 cX7_countOfAllLoans 4 rX7_countOfAllLoans (some .int)) (hq : Ret z zI K) : ∀ (n : Nat) (x0 : Nat) (x1 : Int32) (x2 : Int32) (x3 : Int32) (M : Mm), Sim z 4 [(0, .ref x0), (1, .int x1), (2, .int x2), (3, .int x3)] [] M 0 0 (f_X7_countOfAllLoans_4 n x0 x1 x2 x3 M) K := by
  intro n
  induction n with
  | zero => exact fun _ _ _ _ _ => r_none
  | succ n ih =>
    intro x0 x1 x2 x3 M
    unfold f_X7_countOfAllLoans_4
    refine r_iload_n hz dX7_countOfAllLoans_4 3 rfl ?_
    refine r_aload_n hz dX7_countOfAllLoans_5 0 rfl ?_
    refine r_getR (j := 0) cl7 hz dX7_countOfAllLoans_6 (by decide) wm_2_104 rfl (fun q1 => ?_)
    refine r_getI (j := 0) cl6 hz dX7_countOfAllLoans_9 (by decide) wm_1_38 rfl ?_
    refine r_icmp_ge (tgt := 37) hz dX7_countOfAllLoans_12 rfl ?_ ?_
    · refine r_iload_n hz dX7_countOfAllLoans_37 2 rfl ?_
      exact r_iret hz hq dX7_countOfAllLoans_38 (Nat.le_of_ble_eq_true rfl) (Nat.le_of_ble_eq_true rfl)
    · refine r_iload_n hz dX7_countOfAllLoans_15 2 rfl ?_
      refine r_aload_n hz dX7_countOfAllLoans_16 0 rfl ?_
      refine r_getR (j := 1) cl7 hz dX7_countOfAllLoans_17 (by decide) wm_2_105 rfl (fun q2 => ?_)
      refine r_aload_n hz dX7_countOfAllLoans_20 0 rfl ?_
      refine r_getR (j := 0) cl7 hz dX7_countOfAllLoans_21 (by decide) wm_2_104 rfl (fun q3 => ?_)
      refine r_iload_n hz dX7_countOfAllLoans_24 3 rfl ?_
      refine r_iload_n hz dX7_countOfAllLoans_25 1 rfl ?_
      refine r_callVi (As := fun _ => [.ref q3, .int x3, .int x1]) cl5 hz (fun _ _ h => t_X5_countBonds _ _ _ _ _ _ _ h) cal_X5_countBonds dX7_countOfAllLoans_26 wm_3_132 wm_3_133 wm_3_134 rfl rfl (Nat.le_of_ble_eq_true rfl) ⟨(Nat.le_of_ble_eq_true rfl), (Nat.le_of_ble_eq_true rfl)⟩ ⟨(Nat.le_of_ble_eq_true rfl), (Nat.le_of_ble_eq_true rfl)⟩ (fun v5 M4 => ?_)
      refine r_iadd hz dX7_countOfAllLoans_29 ?_
      refine r_nmi (fun v6 => ?_)
      refine r_istore_n (lv' := [(2, .int v6), (0, .ref x0), (1, .int x1), (3, .int x3)]) hz dX7_countOfAllLoans_30 (by decide) rfl ?_
      refine r_iinc (v := (x3 + (1 : Int32))) (lv' := [(3, .int (x3 + (1 : Int32))), (2, .int v6), (0, .ref x0), (1, .int x1)]) hz dX7_countOfAllLoans_31 3 rfl rfl (by decide) rfl ?_
      refine r_goto (tgt := 4) hz dX7_countOfAllLoans_34 rfl ?_
      refine r_sub [2, 3, 1, 0] rfl ?_
      exact ih x0 x1 v6 (x3 + (1 : Int32)) M4
def f_X7_countOfAllLoans (p0 : Nat) (p1 : Int32) (M : Mm) : Option (Int32 × Mm) :=
  f_X7_countOfAllLoans_4 FU p0 p1 (0 : Int32) (0 : Int32) M
set_option maxRecDepth 20000 in
set_option maxHeartbeats 4000000 in
theorem t_X7_countOfAllLoans (p0 : Nat) (p1 : Int32) (M : Mm) (x : Int32) (M' : Mm) (h : f_X7_countOfAllLoans p0 p1 M = some (x, M')) : Ctr yX7_countOfAllLoans cX7_countOfAllLoans 4 (some .int) rX7_countOfAllLoans (fun _ => [.ref p0, .int p1]) M (zI x) M' := by
  refine ctr_of (plainFor_of_name (by decide)) (fun _ => Nat.le_of_ble_eq_true rfl) (fun z hz hin hq => ?_)
  have key : Sim z 0 [(0, .ref p0), (1, .int p1)] [] M 0 0 (f_X7_countOfAllLoans p0 p1 M) (fun a b => a = x ∧ b = M') := by
    have hq : Ret z zI (fun a b => a = x ∧ b = M') := fun a b e => by rw [e.1, e.2]; exact hq
    unfold f_X7_countOfAllLoans
    refine r_iconst (v := 0) hz dX7_countOfAllLoans_0 rfl ?_
    refine r_istore_n (lv' := [(2, .int (0 : Int32)), (0, .ref p0), (1, .int p1)]) hz dX7_countOfAllLoans_1 (by decide) rfl ?_
    refine r_iconst (v := 0) hz dX7_countOfAllLoans_2 rfl ?_
    refine r_istore_n (lv' := [(3, .int (0 : Int32)), (2, .int (0 : Int32)), (0, .ref p0), (1, .int p1)]) hz dX7_countOfAllLoans_3 (by decide) rfl ?_
    refine r_sub [2, 3, 1, 0] rfl ?_
    exact s_X7_countOfAllLoans_4 hz hq FU p0 p1 (0 : Int32) (0 : Int32) M
  exact key x M' h ⟨rfl, rfl⟩
theorem dX7_count_0 : decode cX7_count 0 = .ok (.iload_n 1, 1) := by decide +kernel
theorem dX7_count_1 : decode cX7_count 1 = .ok (.tableswitch 101 0 10 #[59, 67, 75, 101, 101, 101, 101, 101, 83, 88, 93], 59) := by decide +kernel
theorem dX7_count_60 : decode cX7_count 60 = .ok (.aload_n 0, 1) := by decide +kernel
theorem dX7_count_61 : decode cX7_count 61 = .ok (.getfield 10, 3) := by decide +kernel
theorem dX7_count_64 : decode cX7_count 64 = .ok (.getfield 96, 3) := by decide +kernel
theorem dX7_count_67 : decode cX7_count 67 = .ok (.ireturn, 1) := by decide +kernel
theorem dX7_count_68 : decode cX7_count 68 = .ok (.aload_n 0, 1) := by decide +kernel
theorem dX7_count_69 : decode cX7_count 69 = .ok (.getfield 10, 3) := by decide +kernel
theorem dX7_count_72 : decode cX7_count 72 = .ok (.getfield 99, 3) := by decide +kernel
theorem dX7_count_75 : decode cX7_count 75 = .ok (.ireturn, 1) := by decide +kernel
theorem dX7_count_76 : decode cX7_count 76 = .ok (.aload_n 0, 1) := by decide +kernel
theorem dX7_count_77 : decode cX7_count 77 = .ok (.getfield 19, 3) := by decide +kernel
theorem dX7_count_80 : decode cX7_count 80 = .ok (.getfield 102, 3) := by decide +kernel
theorem dX7_count_83 : decode cX7_count 83 = .ok (.ireturn, 1) := by decide +kernel
theorem dX7_count_84 : decode cX7_count 84 = .ok (.aload_n 0, 1) := by decide +kernel
theorem dX7_count_85 : decode cX7_count 85 = .ok (.getfield 27, 3) := by decide +kernel
theorem dX7_count_88 : decode cX7_count 88 = .ok (.ireturn, 1) := by decide +kernel
theorem dX7_count_89 : decode cX7_count 89 = .ok (.aload_n 0, 1) := by decide +kernel
theorem dX7_count_90 : decode cX7_count 90 = .ok (.invokevirtual 105, 3) := by decide +kernel
theorem dX7_count_93 : decode cX7_count 93 = .ok (.ireturn, 1) := by decide +kernel
theorem dX7_count_94 : decode cX7_count 94 = .ok (.aload_n 0, 1) := by decide +kernel
theorem dX7_count_95 : decode cX7_count 95 = .ok (.getfield 45, 3) := by decide +kernel
theorem dX7_count_98 : decode cX7_count 98 = .ok (.getfield 77, 3) := by decide +kernel
theorem dX7_count_101 : decode cX7_count 101 = .ok (.ireturn, 1) := by decide +kernel
theorem dX7_count_102 : decode cX7_count 102 = .ok (.iload_n 1, 1) := by decide +kernel
theorem dX7_count_103 : decode cX7_count 103 = .ok (.iconst 3, 1) := by decide +kernel
theorem dX7_count_104 : decode cX7_count 104 = .ok (.if_icmp .lt 19, 3) := by decide +kernel
theorem dX7_count_107 : decode cX7_count 107 = .ok (.iload_n 1, 1) := by decide +kernel
theorem dX7_count_108 : decode cX7_count 108 = .ok (.bipush 7, 2) := by decide +kernel
theorem dX7_count_110 : decode cX7_count 110 = .ok (.if_icmp .gt 13, 3) := by decide +kernel
theorem dX7_count_113 : decode cX7_count 113 = .ok (.aload_n 0, 1) := by decide +kernel
theorem dX7_count_114 : decode cX7_count 114 = .ok (.iload_n 1, 1) := by decide +kernel
theorem dX7_count_115 : decode cX7_count 115 = .ok (.iconst 3, 1) := by decide +kernel
theorem dX7_count_116 : decode cX7_count 116 = .ok (.isub, 1) := by decide +kernel
theorem dX7_count_117 : decode cX7_count 117 = .ok (.invokevirtual 109, 3) := by decide +kernel
theorem dX7_count_120 : decode cX7_count 120 = .ok (.goto 4, 3) := by decide +kernel
theorem dX7_count_123 : decode cX7_count 123 = .ok (.iconst (-1), 1) := by decide +kernel
theorem dX7_count_124 : decode cX7_count 124 = .ok (.ireturn, 1) := by decide +kernel
abbrev rX7_count : Room := { frames := 3, cells := 0, slots := 0, locals := 69 }
theorem cal_X7_count : CalOk yX7_count cX7_count 2 (some .int) 1 := ⟨wm_3_123, wm_1_1, by decide, by decide, by decide +kernel⟩
def f_X7_count (p0 : Nat) (p1 : Int32) (M : Mm) : Option (Int32 × Mm) :=
  (if p1 = (0 : Int32) then
    ck (gK M p0 = 7) (bR (gR M p0 0) fun q1 => ck (gK M q1 = 6) (some ((gI M q1 0), M)))
  else
  (if p1 = (1 : Int32) then
    ck (gK M p0 = 7) (bR (gR M p0 0) fun q2 => ck (gK M q2 = 6) (some ((gI M q2 1), M)))
  else
  (if p1 = (2 : Int32) then
    ck (gK M p0 = 7) (bR (gR M p0 1) fun q3 => ck (gK M q3 = 5) (some ((gI M q3 0), M)))
  else
  (if p1 = (3 : Int32) then
    (if p1 < (3 : Int32) then
      some ((-1 : Int32), M)
    else
      (if (7 : Int32) < p1 then
        some ((-1 : Int32), M)
      else
        ck (gK M p0 = 7) (bd (f_X7_countOfAllLoans p0 (p1 - (3 : Int32)) M) fun v5 M4 =>
        some (v5, M4))))
  else
  (if p1 = (4 : Int32) then
    (if p1 < (3 : Int32) then
      some ((-1 : Int32), M)
    else
      (if (7 : Int32) < p1 then
        some ((-1 : Int32), M)
      else
        ck (gK M p0 = 7) (bd (f_X7_countOfAllLoans p0 (p1 - (3 : Int32)) M) fun v7 M6 =>
        some (v7, M6))))
  else
  (if p1 = (5 : Int32) then
    (if p1 < (3 : Int32) then
      some ((-1 : Int32), M)
    else
      (if (7 : Int32) < p1 then
        some ((-1 : Int32), M)
      else
        ck (gK M p0 = 7) (bd (f_X7_countOfAllLoans p0 (p1 - (3 : Int32)) M) fun v9 M8 =>
        some (v9, M8))))
  else
  (if p1 = (6 : Int32) then
    (if p1 < (3 : Int32) then
      some ((-1 : Int32), M)
    else
      (if (7 : Int32) < p1 then
        some ((-1 : Int32), M)
      else
        ck (gK M p0 = 7) (bd (f_X7_countOfAllLoans p0 (p1 - (3 : Int32)) M) fun v11 M10 =>
        some (v11, M10))))
  else
  (if p1 = (7 : Int32) then
    (if p1 < (3 : Int32) then
      some ((-1 : Int32), M)
    else
      (if (7 : Int32) < p1 then
        some ((-1 : Int32), M)
      else
        ck (gK M p0 = 7) (bd (f_X7_countOfAllLoans p0 (p1 - (3 : Int32)) M) fun v13 M12 =>
        some (v13, M12))))
  else
  (if p1 = (8 : Int32) then
    ck (gK M p0 = 7) (some ((gI M p0 3), M))
  else
  (if p1 = (9 : Int32) then
    ck (gK M p0 = 7) (bd (f_X7_countImages p0 M) fun v15 M14 =>
    some (v15, M14))
  else
  (if p1 = (10 : Int32) then
    ck (gK M p0 = 7) (bR (gR M p0 7) fun q16 => ck (gK M q16 = 3) (some ((gI M q16 1), M)))
  else
    (if p1 < (3 : Int32) then
      some ((-1 : Int32), M)
    else
      (if (7 : Int32) < p1 then
        some ((-1 : Int32), M)
      else
        ck (gK M p0 = 7) (bd (f_X7_countOfAllLoans p0 (p1 - (3 : Int32)) M) fun v18 M17 =>
        some (v18, M17)))))))))))))))
set_option maxRecDepth 20000 in
set_option maxHeartbeats 4000000 in
theorem t_X7_count (p0 : Nat) (p1 : Int32) (M : Mm) (x : Int32) (M' : Mm) (h : f_X7_count p0 p1 M = some (x, M')) : Ctr yX7_count cX7_count 2 (some .int) rX7_count (fun _ => [.ref p0, .int p1]) M (zI x) M' := by
  refine ctr_of (plainFor_of_name (by decide)) (fun _ => Nat.le_of_ble_eq_true rfl) (fun z hz hin hq => ?_)
  have key : Sim z 0 [(0, .ref p0), (1, .int p1)] [] M 0 0 (f_X7_count p0 p1 M) (fun a b => a = x ∧ b = M') := by
    have hq : Ret z zI (fun a b => a = x ∧ b = M') := fun a b e => by rw [e.1, e.2]; exact hq
    unfold f_X7_count
    refine r_iload_n hz dX7_count_0 1 rfl ?_
    refine r_swc (v := 0) (tgt := 60) hz dX7_count_1 (by decide) (by decide) rfl rfl ?_ (fun n0 => ?_)
    · refine r_aload_n hz dX7_count_60 0 rfl ?_
      refine r_getR (j := 0) cl7 hz dX7_count_61 (by decide) wm_2_104 rfl (fun q1 => ?_)
      refine r_getI (j := 0) cl6 hz dX7_count_64 (by decide) wm_1_38 rfl ?_
      exact r_iret hz hq dX7_count_67 (Nat.le_of_ble_eq_true rfl) (Nat.le_of_ble_eq_true rfl)
    refine r_swc (v := 1) (tgt := 68) hz dX7_count_1 (by decide) (by decide) rfl rfl ?_ (fun n1 => ?_)
    · refine r_aload_n hz dX7_count_68 0 rfl ?_
      refine r_getR (j := 0) cl7 hz dX7_count_69 (by decide) wm_2_104 rfl (fun q2 => ?_)
      refine r_getI (j := 1) cl6 hz dX7_count_72 (by decide) wm_1_41 rfl ?_
      exact r_iret hz hq dX7_count_75 (Nat.le_of_ble_eq_true rfl) (Nat.le_of_ble_eq_true rfl)
    refine r_swc (v := 2) (tgt := 76) hz dX7_count_1 (by decide) (by decide) rfl rfl ?_ (fun n2 => ?_)
    · refine r_aload_n hz dX7_count_76 0 rfl ?_
      refine r_getR (j := 1) cl7 hz dX7_count_77 (by decide) wm_2_105 rfl (fun q3 => ?_)
      refine r_getI (j := 0) cl5 hz dX7_count_80 (by decide) wm_1_142 rfl ?_
      exact r_iret hz hq dX7_count_83 (Nat.le_of_ble_eq_true rfl) (Nat.le_of_ble_eq_true rfl)
    refine r_swc (v := 3) (tgt := 102) hz dX7_count_1 (by decide) (by decide) rfl rfl ?_ (fun n3 => ?_)
    · refine r_iload_n hz dX7_count_102 1 rfl ?_
      refine r_iconst (v := 3) hz dX7_count_103 rfl ?_
      refine r_icmp_lt (tgt := 123) hz dX7_count_104 rfl ?_ ?_
      · refine r_iconst (v := -1) hz dX7_count_123 rfl ?_
        exact r_iret hz hq dX7_count_124 (Nat.le_of_ble_eq_true rfl) (Nat.le_of_ble_eq_true rfl)
      · refine r_iload_n hz dX7_count_107 1 rfl ?_
        refine r_bipush (v := 7) hz dX7_count_108 rfl ?_
        refine r_icmp_gt (tgt := 123) hz dX7_count_110 rfl ?_ ?_
        · refine r_iconst (v := -1) hz dX7_count_123 rfl ?_
          exact r_iret hz hq dX7_count_124 (Nat.le_of_ble_eq_true rfl) (Nat.le_of_ble_eq_true rfl)
        · refine r_aload_n hz dX7_count_113 0 rfl ?_
          refine r_iload_n hz dX7_count_114 1 rfl ?_
          refine r_iconst (v := 3) hz dX7_count_115 rfl ?_
          refine r_isub hz dX7_count_116 ?_
          refine r_callVi (As := fun _ => [.int (p1 - (3 : Int32))]) cl7 hz (fun _ _ h => t_X7_countOfAllLoans _ _ _ _ _ h) cal_X7_countOfAllLoans dX7_count_117 wm_3_128 wm_3_130 wm_p_23 rfl rfl (Nat.le_of_ble_eq_true rfl) ⟨(Nat.le_of_ble_eq_true rfl), (Nat.le_of_ble_eq_true rfl)⟩ ⟨(Nat.le_of_ble_eq_true rfl), (Nat.le_of_ble_eq_true rfl)⟩ (fun v5 M4 => ?_)
          refine r_goto (tgt := 124) hz dX7_count_120 rfl ?_
          exact r_iret hz hq dX7_count_124 (Nat.le_of_ble_eq_true rfl) (Nat.le_of_ble_eq_true rfl)
    refine r_swc (v := 4) (tgt := 102) hz dX7_count_1 (by decide) (by decide) rfl rfl ?_ (fun n4 => ?_)
    · refine r_iload_n hz dX7_count_102 1 rfl ?_
      refine r_iconst (v := 3) hz dX7_count_103 rfl ?_
      refine r_icmp_lt (tgt := 123) hz dX7_count_104 rfl ?_ ?_
      · refine r_iconst (v := -1) hz dX7_count_123 rfl ?_
        exact r_iret hz hq dX7_count_124 (Nat.le_of_ble_eq_true rfl) (Nat.le_of_ble_eq_true rfl)
      · refine r_iload_n hz dX7_count_107 1 rfl ?_
        refine r_bipush (v := 7) hz dX7_count_108 rfl ?_
        refine r_icmp_gt (tgt := 123) hz dX7_count_110 rfl ?_ ?_
        · refine r_iconst (v := -1) hz dX7_count_123 rfl ?_
          exact r_iret hz hq dX7_count_124 (Nat.le_of_ble_eq_true rfl) (Nat.le_of_ble_eq_true rfl)
        · refine r_aload_n hz dX7_count_113 0 rfl ?_
          refine r_iload_n hz dX7_count_114 1 rfl ?_
          refine r_iconst (v := 3) hz dX7_count_115 rfl ?_
          refine r_isub hz dX7_count_116 ?_
          refine r_callVi (As := fun _ => [.int (p1 - (3 : Int32))]) cl7 hz (fun _ _ h => t_X7_countOfAllLoans _ _ _ _ _ h) cal_X7_countOfAllLoans dX7_count_117 wm_3_128 wm_3_130 wm_p_23 rfl rfl (Nat.le_of_ble_eq_true rfl) ⟨(Nat.le_of_ble_eq_true rfl), (Nat.le_of_ble_eq_true rfl)⟩ ⟨(Nat.le_of_ble_eq_true rfl), (Nat.le_of_ble_eq_true rfl)⟩ (fun v7 M6 => ?_)
          refine r_goto (tgt := 124) hz dX7_count_120 rfl ?_
          exact r_iret hz hq dX7_count_124 (Nat.le_of_ble_eq_true rfl) (Nat.le_of_ble_eq_true rfl)
    refine r_swc (v := 5) (tgt := 102) hz dX7_count_1 (by decide) (by decide) rfl rfl ?_ (fun n5 => ?_)
    · refine r_iload_n hz dX7_count_102 1 rfl ?_
      refine r_iconst (v := 3) hz dX7_count_103 rfl ?_
      refine r_icmp_lt (tgt := 123) hz dX7_count_104 rfl ?_ ?_
      · refine r_iconst (v := -1) hz dX7_count_123 rfl ?_
        exact r_iret hz hq dX7_count_124 (Nat.le_of_ble_eq_true rfl) (Nat.le_of_ble_eq_true rfl)
      · refine r_iload_n hz dX7_count_107 1 rfl ?_
        refine r_bipush (v := 7) hz dX7_count_108 rfl ?_
        refine r_icmp_gt (tgt := 123) hz dX7_count_110 rfl ?_ ?_
        · refine r_iconst (v := -1) hz dX7_count_123 rfl ?_
          exact r_iret hz hq dX7_count_124 (Nat.le_of_ble_eq_true rfl) (Nat.le_of_ble_eq_true rfl)
        · refine r_aload_n hz dX7_count_113 0 rfl ?_
          refine r_iload_n hz dX7_count_114 1 rfl ?_
          refine r_iconst (v := 3) hz dX7_count_115 rfl ?_
          refine r_isub hz dX7_count_116 ?_
          refine r_callVi (As := fun _ => [.int (p1 - (3 : Int32))]) cl7 hz (fun _ _ h => t_X7_countOfAllLoans _ _ _ _ _ h) cal_X7_countOfAllLoans dX7_count_117 wm_3_128 wm_3_130 wm_p_23 rfl rfl (Nat.le_of_ble_eq_true rfl) ⟨(Nat.le_of_ble_eq_true rfl), (Nat.le_of_ble_eq_true rfl)⟩ ⟨(Nat.le_of_ble_eq_true rfl), (Nat.le_of_ble_eq_true rfl)⟩ (fun v9 M8 => ?_)
          refine r_goto (tgt := 124) hz dX7_count_120 rfl ?_
          exact r_iret hz hq dX7_count_124 (Nat.le_of_ble_eq_true rfl) (Nat.le_of_ble_eq_true rfl)
    refine r_swc (v := 6) (tgt := 102) hz dX7_count_1 (by decide) (by decide) rfl rfl ?_ (fun n6 => ?_)
    · refine r_iload_n hz dX7_count_102 1 rfl ?_
      refine r_iconst (v := 3) hz dX7_count_103 rfl ?_
      refine r_icmp_lt (tgt := 123) hz dX7_count_104 rfl ?_ ?_
      · refine r_iconst (v := -1) hz dX7_count_123 rfl ?_
        exact r_iret hz hq dX7_count_124 (Nat.le_of_ble_eq_true rfl) (Nat.le_of_ble_eq_true rfl)
      · refine r_iload_n hz dX7_count_107 1 rfl ?_
        refine r_bipush (v := 7) hz dX7_count_108 rfl ?_
        refine r_icmp_gt (tgt := 123) hz dX7_count_110 rfl ?_ ?_
        · refine r_iconst (v := -1) hz dX7_count_123 rfl ?_
          exact r_iret hz hq dX7_count_124 (Nat.le_of_ble_eq_true rfl) (Nat.le_of_ble_eq_true rfl)
        · refine r_aload_n hz dX7_count_113 0 rfl ?_
          refine r_iload_n hz dX7_count_114 1 rfl ?_
          refine r_iconst (v := 3) hz dX7_count_115 rfl ?_
          refine r_isub hz dX7_count_116 ?_
          refine r_callVi (As := fun _ => [.int (p1 - (3 : Int32))]) cl7 hz (fun _ _ h => t_X7_countOfAllLoans _ _ _ _ _ h) cal_X7_countOfAllLoans dX7_count_117 wm_3_128 wm_3_130 wm_p_23 rfl rfl (Nat.le_of_ble_eq_true rfl) ⟨(Nat.le_of_ble_eq_true rfl), (Nat.le_of_ble_eq_true rfl)⟩ ⟨(Nat.le_of_ble_eq_true rfl), (Nat.le_of_ble_eq_true rfl)⟩ (fun v11 M10 => ?_)
          refine r_goto (tgt := 124) hz dX7_count_120 rfl ?_
          exact r_iret hz hq dX7_count_124 (Nat.le_of_ble_eq_true rfl) (Nat.le_of_ble_eq_true rfl)
    refine r_swc (v := 7) (tgt := 102) hz dX7_count_1 (by decide) (by decide) rfl rfl ?_ (fun n7 => ?_)
    · refine r_iload_n hz dX7_count_102 1 rfl ?_
      refine r_iconst (v := 3) hz dX7_count_103 rfl ?_
      refine r_icmp_lt (tgt := 123) hz dX7_count_104 rfl ?_ ?_
      · refine r_iconst (v := -1) hz dX7_count_123 rfl ?_
        exact r_iret hz hq dX7_count_124 (Nat.le_of_ble_eq_true rfl) (Nat.le_of_ble_eq_true rfl)
      · refine r_iload_n hz dX7_count_107 1 rfl ?_
        refine r_bipush (v := 7) hz dX7_count_108 rfl ?_
        refine r_icmp_gt (tgt := 123) hz dX7_count_110 rfl ?_ ?_
        · refine r_iconst (v := -1) hz dX7_count_123 rfl ?_
          exact r_iret hz hq dX7_count_124 (Nat.le_of_ble_eq_true rfl) (Nat.le_of_ble_eq_true rfl)
        · refine r_aload_n hz dX7_count_113 0 rfl ?_
          refine r_iload_n hz dX7_count_114 1 rfl ?_
          refine r_iconst (v := 3) hz dX7_count_115 rfl ?_
          refine r_isub hz dX7_count_116 ?_
          refine r_callVi (As := fun _ => [.int (p1 - (3 : Int32))]) cl7 hz (fun _ _ h => t_X7_countOfAllLoans _ _ _ _ _ h) cal_X7_countOfAllLoans dX7_count_117 wm_3_128 wm_3_130 wm_p_23 rfl rfl (Nat.le_of_ble_eq_true rfl) ⟨(Nat.le_of_ble_eq_true rfl), (Nat.le_of_ble_eq_true rfl)⟩ ⟨(Nat.le_of_ble_eq_true rfl), (Nat.le_of_ble_eq_true rfl)⟩ (fun v13 M12 => ?_)
          refine r_goto (tgt := 124) hz dX7_count_120 rfl ?_
          exact r_iret hz hq dX7_count_124 (Nat.le_of_ble_eq_true rfl) (Nat.le_of_ble_eq_true rfl)
    refine r_swc (v := 8) (tgt := 84) hz dX7_count_1 (by decide) (by decide) rfl rfl ?_ (fun n8 => ?_)
    · refine r_aload_n hz dX7_count_84 0 rfl ?_
      refine r_getI (j := 3) cl7 hz dX7_count_85 (by decide) wm_2_107 rfl ?_
      exact r_iret hz hq dX7_count_88 (Nat.le_of_ble_eq_true rfl) (Nat.le_of_ble_eq_true rfl)
    refine r_swc (v := 9) (tgt := 89) hz dX7_count_1 (by decide) (by decide) rfl rfl ?_ (fun n9 => ?_)
    · refine r_aload_n hz dX7_count_89 0 rfl ?_
      refine r_callVi (As := fun _ => []) cl7 hz (fun _ _ h => t_X7_countImages _ _ _ _ h) cal_X7_countImages dX7_count_90 wm_3_124 wm_3_126 wm_p_22 rfl rfl (Nat.le_of_ble_eq_true rfl) ⟨(Nat.le_of_ble_eq_true rfl), (Nat.le_of_ble_eq_true rfl)⟩ ⟨(Nat.le_of_ble_eq_true rfl), (Nat.le_of_ble_eq_true rfl)⟩ (fun v15 M14 => ?_)
      exact r_iret hz hq dX7_count_93 (Nat.le_of_ble_eq_true rfl) (Nat.le_of_ble_eq_true rfl)
    refine r_swc (v := 10) (tgt := 94) hz dX7_count_1 (by decide) (by decide) rfl rfl ?_ (fun n10 => ?_)
    · refine r_aload_n hz dX7_count_94 0 rfl ?_
      refine r_getR (j := 7) cl7 hz dX7_count_95 (by decide) wm_2_111 rfl (fun q16 => ?_)
      refine r_getI (j := 1) cl3 hz dX7_count_98 (by decide) wm_1_199 rfl ?_
      exact r_iret hz hq dX7_count_101 (Nat.le_of_ble_eq_true rfl) (Nat.le_of_ble_eq_true rfl)
    refine r_swd (tgt := 102) hz dX7_count_1 (by have n0q := lv_neT n0 (show (0 : Int32).toInt = 0 from rfl); have n1q := lv_neT n1 (show (1 : Int32).toInt = 1 from rfl); have n2q := lv_neT n2 (show (2 : Int32).toInt = 2 from rfl); have n3q := lv_neT n3 (show (3 : Int32).toInt = 3 from rfl); have n4q := lv_neT n4 (show (4 : Int32).toInt = 4 from rfl); have n5q := lv_neT n5 (show (5 : Int32).toInt = 5 from rfl); have n6q := lv_neT n6 (show (6 : Int32).toInt = 6 from rfl); have n7q := lv_neT n7 (show (7 : Int32).toInt = 7 from rfl); have n8q := lv_neT n8 (show (8 : Int32).toInt = 8 from rfl); have n9q := lv_neT n9 (show (9 : Int32).toInt = 9 from rfl); have n10q := lv_neT n10 (show (10 : Int32).toInt = 10 from rfl); omega) rfl ?_
    refine r_iload_n hz dX7_count_102 1 rfl ?_
    refine r_iconst (v := 3) hz dX7_count_103 rfl ?_
    refine r_icmp_lt (tgt := 123) hz dX7_count_104 rfl ?_ ?_
    · refine r_iconst (v := -1) hz dX7_count_123 rfl ?_
      exact r_iret hz hq dX7_count_124 (Nat.le_of_ble_eq_true rfl) (Nat.le_of_ble_eq_true rfl)
    · refine r_iload_n hz dX7_count_107 1 rfl ?_
      refine r_bipush (v := 7) hz dX7_count_108 rfl ?_
      refine r_icmp_gt (tgt := 123) hz dX7_count_110 rfl ?_ ?_
      · refine r_iconst (v := -1) hz dX7_count_123 rfl ?_
        exact r_iret hz hq dX7_count_124 (Nat.le_of_ble_eq_true rfl) (Nat.le_of_ble_eq_true rfl)
      · refine r_aload_n hz dX7_count_113 0 rfl ?_
        refine r_iload_n hz dX7_count_114 1 rfl ?_
        refine r_iconst (v := 3) hz dX7_count_115 rfl ?_
        refine r_isub hz dX7_count_116 ?_
        refine r_callVi (As := fun _ => [.int (p1 - (3 : Int32))]) cl7 hz (fun _ _ h => t_X7_countOfAllLoans _ _ _ _ _ h) cal_X7_countOfAllLoans dX7_count_117 wm_3_128 wm_3_130 wm_p_23 rfl rfl (Nat.le_of_ble_eq_true rfl) ⟨(Nat.le_of_ble_eq_true rfl), (Nat.le_of_ble_eq_true rfl)⟩ ⟨(Nat.le_of_ble_eq_true rfl), (Nat.le_of_ble_eq_true rfl)⟩ (fun v18 M17 => ?_)
        refine r_goto (tgt := 124) hz dX7_count_120 rfl ?_
        exact r_iret hz hq dX7_count_124 (Nat.le_of_ble_eq_true rfl) (Nat.le_of_ble_eq_true rfl)
  exact key x M' h ⟨rfl, rfl⟩
theorem dX7_isHolder_0 : decode cX7_isHolder 0 = .ok (.iload_n 1, 1) := by decide +kernel
theorem dX7_isHolder_1 : decode cX7_isHolder 1 = .ok (.ifCond .lt 18, 3) := by decide +kernel
theorem dX7_isHolder_4 : decode cX7_isHolder 4 = .ok (.iload_n 1, 1) := by decide +kernel
theorem dX7_isHolder_5 : decode cX7_isHolder 5 = .ok (.aload_n 0, 1) := by decide +kernel
theorem dX7_isHolder_6 : decode cX7_isHolder 6 = .ok (.getfield 10, 3) := by decide +kernel
theorem dX7_isHolder_9 : decode cX7_isHolder 9 = .ok (.getfield 99, 3) := by decide +kernel
theorem dX7_isHolder_12 : decode cX7_isHolder 12 = .ok (.if_icmp .ge 7, 3) := by decide +kernel
theorem dX7_isHolder_15 : decode cX7_isHolder 15 = .ok (.iconst 1, 1) := by decide +kernel
theorem dX7_isHolder_16 : decode cX7_isHolder 16 = .ok (.goto 4, 3) := by decide +kernel
theorem dX7_isHolder_19 : decode cX7_isHolder 19 = .ok (.iconst 0, 1) := by decide +kernel
theorem dX7_isHolder_20 : decode cX7_isHolder 20 = .ok (.ireturn, 1) := by decide +kernel
abbrev rX7_isHolder : Room := { frames := 0, cells := 0, slots := 0, locals := 0 }
theorem cal_X7_isHolder : CalOk yX7_isHolder cX7_isHolder 2 (some .boolean) 1 := ⟨wm_3_144, wm_1_1, by decide, by decide, by decide +kernel⟩
def f_X7_isHolder (p0 : Nat) (p1 : Int32) (M : Mm) : Option (Int32 × Mm) :=
  (if p1 < 0 then
    some ((0 : Int32), M)
  else
    ck (gK M p0 = 7) (bR (gR M p0 0) fun q1 => ck (gK M q1 = 6) ((if (gI M q1 1) ≤ p1 then
      some ((0 : Int32), M)
    else
      some ((1 : Int32), M)))))
set_option maxRecDepth 20000 in
set_option maxHeartbeats 4000000 in
theorem t_X7_isHolder (p0 : Nat) (p1 : Int32) (M : Mm) (x : Int32) (M' : Mm) (h : f_X7_isHolder p0 p1 M = some (x, M')) : Ctr yX7_isHolder cX7_isHolder 2 (some .boolean) rX7_isHolder (fun _ => [.ref p0, .int p1]) M (zI x) M' := by
  refine ctr_of (plainFor_of_name (by decide)) (fun _ => Nat.le_of_ble_eq_true rfl) (fun z hz hin hq => ?_)
  have key : Sim z 0 [(0, .ref p0), (1, .int p1)] [] M 0 0 (f_X7_isHolder p0 p1 M) (fun a b => a = x ∧ b = M') := by
    have hq : Ret z zI (fun a b => a = x ∧ b = M') := fun a b e => by rw [e.1, e.2]; exact hq
    unfold f_X7_isHolder
    refine r_iload_n hz dX7_isHolder_0 1 rfl ?_
    refine r_if_lt (tgt := 19) hz dX7_isHolder_1 rfl ?_ ?_
    · refine r_iconst (v := 0) hz dX7_isHolder_19 rfl ?_
      exact r_zret hz hq dX7_isHolder_20 (Or.inl rfl) (Nat.le_of_ble_eq_true rfl) (Nat.le_of_ble_eq_true rfl)
    · refine r_iload_n hz dX7_isHolder_4 1 rfl ?_
      refine r_aload_n hz dX7_isHolder_5 0 rfl ?_
      refine r_getR (j := 0) cl7 hz dX7_isHolder_6 (by decide) wm_2_104 rfl (fun q1 => ?_)
      refine r_getI (j := 1) cl6 hz dX7_isHolder_9 (by decide) wm_1_41 rfl ?_
      refine r_icmp_ge (tgt := 19) hz dX7_isHolder_12 rfl ?_ ?_
      · refine r_iconst (v := 0) hz dX7_isHolder_19 rfl ?_
        exact r_zret hz hq dX7_isHolder_20 (Or.inl rfl) (Nat.le_of_ble_eq_true rfl) (Nat.le_of_ble_eq_true rfl)
      · refine r_iconst (v := 1) hz dX7_isHolder_15 rfl ?_
        refine r_goto (tgt := 20) hz dX7_isHolder_16 rfl ?_
        exact r_zret hz hq dX7_isHolder_20 (Or.inr rfl) (Nat.le_of_ble_eq_true rfl) (Nat.le_of_ble_eq_true rfl)
  exact key x M' h ⟨rfl, rfl⟩
theorem dX7_cash_0 : decode cX7_cash 0 = .ok (.aload_n 0, 1) := by decide +kernel
theorem dX7_cash_1 : decode cX7_cash 1 = .ok (.iload_n 1, 1) := by decide +kernel
theorem dX7_cash_2 : decode cX7_cash 2 = .ok (.invokevirtual 156, 3) := by decide +kernel
theorem dX7_cash_5 : decode cX7_cash 5 = .ok (.ifCond .eq 15, 3) := by decide +kernel
theorem dX7_cash_8 : decode cX7_cash 8 = .ok (.aload_n 0, 1) := by decide +kernel
theorem dX7_cash_9 : decode cX7_cash 9 = .ok (.getfield 19, 3) := by decide +kernel
theorem dX7_cash_12 : decode cX7_cash 12 = .ok (.getfield 159, 3) := by decide +kernel
theorem dX7_cash_15 : decode cX7_cash 15 = .ok (.iload_n 1, 1) := by decide +kernel
theorem dX7_cash_16 : decode cX7_cash 16 = .ok (.iaload, 1) := by decide +kernel
theorem dX7_cash_17 : decode cX7_cash 17 = .ok (.goto 4, 3) := by decide +kernel
theorem dX7_cash_20 : decode cX7_cash 20 = .ok (.iconst (-1), 1) := by decide +kernel
theorem dX7_cash_21 : decode cX7_cash 21 = .ok (.ireturn, 1) := by decide +kernel
abbrev rX7_cash : Room := { frames := 1, cells := 0, slots := 0, locals := 21 }
theorem cal_X7_cash : CalOk yX7_cash cX7_cash 2 (some .int) 1 := ⟨wm_3_140, wm_1_1, by decide, by decide, by decide +kernel⟩
def f_X7_cash (p0 : Nat) (p1 : Int32) (M : Mm) : Option (Int32 × Mm) :=
  ck (gK M p0 = 7) (bd (f_X7_isHolder p0 p1 M) fun v2 M1 =>
  (if v2 = 0 then
    some ((-1 : Int32), M1)
  else
    ck (gK M1 p0 = 7) (bR (gR M1 p0 1) fun q3 => ck (gK M1 q3 = 5) (bR (gR M1 q3 1) fun q4 => ck (gK M1 q4 = 10 ∧ inb p1 (gN M1 q4)) (some ((gI M1 q4 (p1).toNatClampNeg), M1))))))
set_option maxRecDepth 20000 in
set_option maxHeartbeats 4000000 in
theorem t_X7_cash (p0 : Nat) (p1 : Int32) (M : Mm) (x : Int32) (M' : Mm) (h : f_X7_cash p0 p1 M = some (x, M')) : Ctr yX7_cash cX7_cash 2 (some .int) rX7_cash (fun _ => [.ref p0, .int p1]) M (zI x) M' := by
  refine ctr_of (plainFor_of_name (by decide)) (fun _ => Nat.le_of_ble_eq_true rfl) (fun z hz hin hq => ?_)
  have key : Sim z 0 [(0, .ref p0), (1, .int p1)] [] M 0 0 (f_X7_cash p0 p1 M) (fun a b => a = x ∧ b = M') := by
    have hq : Ret z zI (fun a b => a = x ∧ b = M') := fun a b e => by rw [e.1, e.2]; exact hq
    unfold f_X7_cash
    refine r_aload_n hz dX7_cash_0 0 rfl ?_
    refine r_iload_n hz dX7_cash_1 1 rfl ?_
    refine r_callVi (As := fun _ => [.int p1]) cl7 hz (fun _ _ h => t_X7_isHolder _ _ _ _ _ h) cal_X7_isHolder dX7_cash_2 wm_3_141 wm_3_143 wm_p_24 rfl rfl (Nat.le_of_ble_eq_true rfl) ⟨(Nat.le_of_ble_eq_true rfl), (Nat.le_of_ble_eq_true rfl)⟩ ⟨(Nat.le_of_ble_eq_true rfl), (Nat.le_of_ble_eq_true rfl)⟩ (fun v2 M1 => ?_)
    refine r_if_eq (tgt := 20) hz dX7_cash_5 rfl ?_ ?_
    · refine r_iconst (v := -1) hz dX7_cash_20 rfl ?_
      exact r_iret hz hq dX7_cash_21 (Nat.le_of_ble_eq_true rfl) (Nat.le_of_ble_eq_true rfl)
    · refine r_aload_n hz dX7_cash_8 0 rfl ?_
      refine r_getR (j := 1) cl7 hz dX7_cash_9 (by decide) wm_2_105 rfl (fun q3 => ?_)
      refine r_getR (j := 1) cl5 hz dX7_cash_12 (by decide) wm_1_144 rfl (fun q4 => ?_)
      refine r_iload_n hz dX7_cash_15 1 rfl ?_
      refine r_iald hz dX7_cash_16 ?_
      refine r_goto (tgt := 21) hz dX7_cash_17 rfl ?_
      exact r_iret hz hq dX7_cash_21 (Nat.le_of_ble_eq_true rfl) (Nat.le_of_ble_eq_true rfl)
  exact key x M' h ⟨rfl, rfl⟩
theorem dX7_isLoan_0 : decode cX7_isLoan 0 = .ok (.iload_n 1, 1) := by decide +kernel
theorem dX7_isLoan_1 : decode cX7_isLoan 1 = .ok (.ifCond .lt 18, 3) := by decide +kernel
theorem dX7_isLoan_4 : decode cX7_isLoan 4 = .ok (.iload_n 1, 1) := by decide +kernel
theorem dX7_isLoan_5 : decode cX7_isLoan 5 = .ok (.aload_n 0, 1) := by decide +kernel
theorem dX7_isLoan_6 : decode cX7_isLoan 6 = .ok (.getfield 10, 3) := by decide +kernel
theorem dX7_isLoan_9 : decode cX7_isLoan 9 = .ok (.getfield 96, 3) := by decide +kernel
theorem dX7_isLoan_12 : decode cX7_isLoan 12 = .ok (.if_icmp .ge 7, 3) := by decide +kernel
theorem dX7_isLoan_15 : decode cX7_isLoan 15 = .ok (.iconst 1, 1) := by decide +kernel
theorem dX7_isLoan_16 : decode cX7_isLoan 16 = .ok (.goto 4, 3) := by decide +kernel
theorem dX7_isLoan_19 : decode cX7_isLoan 19 = .ok (.iconst 0, 1) := by decide +kernel
theorem dX7_isLoan_20 : decode cX7_isLoan 20 = .ok (.ireturn, 1) := by decide +kernel
abbrev rX7_isLoan : Room := { frames := 0, cells := 0, slots := 0, locals := 0 }
theorem cal_X7_isLoan : CalOk yX7_isLoan cX7_isLoan 2 (some .boolean) 1 := ⟨wm_3_152, wm_1_1, by decide, by decide, by decide +kernel⟩
def f_X7_isLoan (p0 : Nat) (p1 : Int32) (M : Mm) : Option (Int32 × Mm) :=
  (if p1 < 0 then
    some ((0 : Int32), M)
  else
    ck (gK M p0 = 7) (bR (gR M p0 0) fun q1 => ck (gK M q1 = 6) ((if (gI M q1 0) ≤ p1 then
      some ((0 : Int32), M)
    else
      some ((1 : Int32), M)))))
set_option maxRecDepth 20000 in
set_option maxHeartbeats 4000000 in
theorem t_X7_isLoan (p0 : Nat) (p1 : Int32) (M : Mm) (x : Int32) (M' : Mm) (h : f_X7_isLoan p0 p1 M = some (x, M')) : Ctr yX7_isLoan cX7_isLoan 2 (some .boolean) rX7_isLoan (fun _ => [.ref p0, .int p1]) M (zI x) M' := by
  refine ctr_of (plainFor_of_name (by decide)) (fun _ => Nat.le_of_ble_eq_true rfl) (fun z hz hin hq => ?_)
  have key : Sim z 0 [(0, .ref p0), (1, .int p1)] [] M 0 0 (f_X7_isLoan p0 p1 M) (fun a b => a = x ∧ b = M') := by
    have hq : Ret z zI (fun a b => a = x ∧ b = M') := fun a b e => by rw [e.1, e.2]; exact hq
    unfold f_X7_isLoan
    refine r_iload_n hz dX7_isLoan_0 1 rfl ?_
    refine r_if_lt (tgt := 19) hz dX7_isLoan_1 rfl ?_ ?_
    · refine r_iconst (v := 0) hz dX7_isLoan_19 rfl ?_
      exact r_zret hz hq dX7_isLoan_20 (Or.inl rfl) (Nat.le_of_ble_eq_true rfl) (Nat.le_of_ble_eq_true rfl)
    · refine r_iload_n hz dX7_isLoan_4 1 rfl ?_
      refine r_aload_n hz dX7_isLoan_5 0 rfl ?_
      refine r_getR (j := 0) cl7 hz dX7_isLoan_6 (by decide) wm_2_104 rfl (fun q1 => ?_)
      refine r_getI (j := 0) cl6 hz dX7_isLoan_9 (by decide) wm_1_38 rfl ?_
      refine r_icmp_ge (tgt := 19) hz dX7_isLoan_12 rfl ?_ ?_
      · refine r_iconst (v := 0) hz dX7_isLoan_19 rfl ?_
        exact r_zret hz hq dX7_isLoan_20 (Or.inl rfl) (Nat.le_of_ble_eq_true rfl) (Nat.le_of_ble_eq_true rfl)
      · refine r_iconst (v := 1) hz dX7_isLoan_15 rfl ?_
        refine r_goto (tgt := 20) hz dX7_isLoan_16 rfl ?_
        exact r_zret hz hq dX7_isLoan_20 (Or.inr rfl) (Nat.le_of_ble_eq_true rfl) (Nat.le_of_ble_eq_true rfl)
  exact key x M' h ⟨rfl, rfl⟩
theorem dX7_held_0 : decode cX7_held 0 = .ok (.aload_n 0, 1) := by decide +kernel
theorem dX7_held_1 : decode cX7_held 1 = .ok (.iload_n 1, 1) := by decide +kernel
theorem dX7_held_2 : decode cX7_held 2 = .ok (.invokevirtual 156, 3) := by decide +kernel
theorem dX7_held_5 : decode cX7_held 5 = .ok (.ifCond .eq 20, 3) := by decide +kernel
theorem dX7_held_8 : decode cX7_held 8 = .ok (.aload_n 0, 1) := by decide +kernel
theorem dX7_held_9 : decode cX7_held 9 = .ok (.iload_n 2, 1) := by decide +kernel
theorem dX7_held_10 : decode cX7_held 10 = .ok (.invokevirtual 116, 3) := by decide +kernel
theorem dX7_held_13 : decode cX7_held 13 = .ok (.ifCond .eq 12, 3) := by decide +kernel
theorem dX7_held_16 : decode cX7_held 16 = .ok (.iload_n 3, 1) := by decide +kernel
theorem dX7_held_17 : decode cX7_held 17 = .ok (.ifCond .lt 8, 3) := by decide +kernel
theorem dX7_held_20 : decode cX7_held 20 = .ok (.iload_n 3, 1) := by decide +kernel
theorem dX7_held_21 : decode cX7_held 21 = .ok (.iconst 4, 1) := by decide +kernel
theorem dX7_held_22 : decode cX7_held 22 = .ok (.if_icmp .le 5, 3) := by decide +kernel
theorem dX7_held_25 : decode cX7_held 25 = .ok (.iconst (-1), 1) := by decide +kernel
theorem dX7_held_26 : decode cX7_held 26 = .ok (.ireturn, 1) := by decide +kernel
theorem dX7_held_27 : decode cX7_held 27 = .ok (.aload_n 0, 1) := by decide +kernel
theorem dX7_held_28 : decode cX7_held 28 = .ok (.getfield 19, 3) := by decide +kernel
theorem dX7_held_31 : decode cX7_held 31 = .ok (.aload_n 0, 1) := by decide +kernel
theorem dX7_held_32 : decode cX7_held 32 = .ok (.getfield 10, 3) := by decide +kernel
theorem dX7_held_35 : decode cX7_held 35 = .ok (.iload_n 2, 1) := by decide +kernel
theorem dX7_held_36 : decode cX7_held 36 = .ok (.iload_n 3, 1) := by decide +kernel
theorem dX7_held_37 : decode cX7_held 37 = .ok (.iload_n 1, 1) := by decide +kernel
theorem dX7_held_38 : decode cX7_held 38 = .ok (.invokevirtual 162, 3) := by decide +kernel
theorem dX7_held_41 : decode cX7_held 41 = .ok (.ireturn, 1) := by decide +kernel
abbrev rX7_held : Room := { frames := 2, cells := 0, slots := 0, locals := 48 }
theorem cal_X7_held : CalOk yX7_held cX7_held 4 (some .int) 3 := ⟨wm_3_148, wm_1_1, by decide, by decide, by decide +kernel⟩
def f_X7_held (p0 : Nat) (p1 : Int32) (p2 : Int32) (p3 : Int32) (M : Mm) : Option (Int32 × Mm) :=
  ck (gK M p0 = 7) (bd (f_X7_isHolder p0 p1 M) fun v2 M1 =>
  (if v2 = 0 then
    some ((-1 : Int32), M1)
  else
    ck (gK M1 p0 = 7) (bd (f_X7_isLoan p0 p2 M1) fun v4 M3 =>
    (if v4 = 0 then
      some ((-1 : Int32), M3)
    else
      (if p3 < 0 then
        some ((-1 : Int32), M3)
      else
        (if p3 ≤ (4 : Int32) then
          ck (gK M3 p0 = 7) (bR (gR M3 p0 1) fun q5 => ck (gK M3 p0 = 7) (bR (gR M3 p0 0) fun q6 => ck (gK M3 q5 = 5) (bd (f_X5_countHeld q5 q6 p2 p3 p1 M3) fun v8 M7 =>
          some (v8, M7))))
        else
          some ((-1 : Int32), M3)))))))
set_option maxRecDepth 20000 in
set_option maxHeartbeats 4000000 in
theorem t_X7_held (p0 : Nat) (p1 : Int32) (p2 : Int32) (p3 : Int32) (M : Mm) (x : Int32) (M' : Mm) (h : f_X7_held p0 p1 p2 p3 M = some (x, M')) : Ctr yX7_held cX7_held 4 (some .int) rX7_held (fun _ => [.ref p0, .int p1, .int p2, .int p3]) M (zI x) M' := by
  refine ctr_of (plainFor_of_name (by decide)) (fun _ => Nat.le_of_ble_eq_true rfl) (fun z hz hin hq => ?_)
  have key : Sim z 0 [(0, .ref p0), (1, .int p1), (2, .int p2), (3, .int p3)] [] M 0 0 (f_X7_held p0 p1 p2 p3 M) (fun a b => a = x ∧ b = M') := by
    have hq : Ret z zI (fun a b => a = x ∧ b = M') := fun a b e => by rw [e.1, e.2]; exact hq
    unfold f_X7_held
    refine r_aload_n hz dX7_held_0 0 rfl ?_
    refine r_iload_n hz dX7_held_1 1 rfl ?_
    refine r_callVi (As := fun _ => [.int p1]) cl7 hz (fun _ _ h => t_X7_isHolder _ _ _ _ _ h) cal_X7_isHolder dX7_held_2 wm_3_141 wm_3_143 wm_p_24 rfl rfl (Nat.le_of_ble_eq_true rfl) ⟨(Nat.le_of_ble_eq_true rfl), (Nat.le_of_ble_eq_true rfl)⟩ ⟨(Nat.le_of_ble_eq_true rfl), (Nat.le_of_ble_eq_true rfl)⟩ (fun v2 M1 => ?_)
    refine r_if_eq (tgt := 25) hz dX7_held_5 rfl ?_ ?_
    · refine r_iconst (v := -1) hz dX7_held_25 rfl ?_
      exact r_iret hz hq dX7_held_26 (Nat.le_of_ble_eq_true rfl) (Nat.le_of_ble_eq_true rfl)
    · refine r_aload_n hz dX7_held_8 0 rfl ?_
      refine r_iload_n hz dX7_held_9 2 rfl ?_
      refine r_callVi (As := fun _ => [.int p2]) cl7 hz (fun _ _ h => t_X7_isLoan _ _ _ _ _ h) cal_X7_isLoan dX7_held_10 wm_3_149 wm_3_151 wm_p_25 rfl rfl (Nat.le_of_ble_eq_true rfl) ⟨(Nat.le_of_ble_eq_true rfl), (Nat.le_of_ble_eq_true rfl)⟩ ⟨(Nat.le_of_ble_eq_true rfl), (Nat.le_of_ble_eq_true rfl)⟩ (fun v4 M3 => ?_)
      refine r_if_eq (tgt := 25) hz dX7_held_13 rfl ?_ ?_
      · refine r_iconst (v := -1) hz dX7_held_25 rfl ?_
        exact r_iret hz hq dX7_held_26 (Nat.le_of_ble_eq_true rfl) (Nat.le_of_ble_eq_true rfl)
      · refine r_iload_n hz dX7_held_16 3 rfl ?_
        refine r_if_lt (tgt := 25) hz dX7_held_17 rfl ?_ ?_
        · refine r_iconst (v := -1) hz dX7_held_25 rfl ?_
          exact r_iret hz hq dX7_held_26 (Nat.le_of_ble_eq_true rfl) (Nat.le_of_ble_eq_true rfl)
        · refine r_iload_n hz dX7_held_20 3 rfl ?_
          refine r_iconst (v := 4) hz dX7_held_21 rfl ?_
          refine r_icmp_le (tgt := 27) hz dX7_held_22 rfl ?_ ?_
          · refine r_aload_n hz dX7_held_27 0 rfl ?_
            refine r_getR (j := 1) cl7 hz dX7_held_28 (by decide) wm_2_105 rfl (fun q5 => ?_)
            refine r_aload_n hz dX7_held_31 0 rfl ?_
            refine r_getR (j := 0) cl7 hz dX7_held_32 (by decide) wm_2_104 rfl (fun q6 => ?_)
            refine r_iload_n hz dX7_held_35 2 rfl ?_
            refine r_iload_n hz dX7_held_36 3 rfl ?_
            refine r_iload_n hz dX7_held_37 1 rfl ?_
            refine r_callVi (As := fun _ => [.ref q6, .int p2, .int p3, .int p1]) cl5 hz (fun _ _ h => t_X5_countHeld _ _ _ _ _ _ _ _ h) cal_X5_countHeld dX7_held_38 wm_3_153 wm_3_154 wm_3_155 rfl rfl (Nat.le_of_ble_eq_true rfl) ⟨(Nat.le_of_ble_eq_true rfl), (Nat.le_of_ble_eq_true rfl)⟩ ⟨(Nat.le_of_ble_eq_true rfl), (Nat.le_of_ble_eq_true rfl)⟩ (fun v8 M7 => ?_)
            exact r_iret hz hq dX7_held_41 (Nat.le_of_ble_eq_true rfl) (Nat.le_of_ble_eq_true rfl)
          · refine r_iconst (v := -1) hz dX7_held_25 rfl ?_
            exact r_iret hz hq dX7_held_26 (Nat.le_of_ble_eq_true rfl) (Nat.le_of_ble_eq_true rfl)
  exact key x M' h ⟨rfl, rfl⟩
theorem dX7_isBond_0 : decode cX7_isBond 0 = .ok (.aload_n 0, 1) := by decide +kernel
theorem dX7_isBond_1 : decode cX7_isBond 1 = .ok (.iload_n 1, 1) := by decide +kernel
theorem dX7_isBond_2 : decode cX7_isBond 2 = .ok (.invokevirtual 116, 3) := by decide +kernel
theorem dX7_isBond_5 : decode cX7_isBond 5 = .ok (.ifCond .eq 25, 3) := by decide +kernel
theorem dX7_isBond_8 : decode cX7_isBond 8 = .ok (.iload_n 2, 1) := by decide +kernel
theorem dX7_isBond_9 : decode cX7_isBond 9 = .ok (.iconst 1, 1) := by decide +kernel
theorem dX7_isBond_10 : decode cX7_isBond 10 = .ok (.if_icmp .lt 20, 3) := by decide +kernel
theorem dX7_isBond_13 : decode cX7_isBond 13 = .ok (.iload_n 2, 1) := by decide +kernel
theorem dX7_isBond_14 : decode cX7_isBond 14 = .ok (.aload_n 0, 1) := by decide +kernel
theorem dX7_isBond_15 : decode cX7_isBond 15 = .ok (.getfield 10, 3) := by decide +kernel
theorem dX7_isBond_18 : decode cX7_isBond 18 = .ok (.getfield 127, 3) := by decide +kernel
theorem dX7_isBond_21 : decode cX7_isBond 21 = .ok (.iload_n 1, 1) := by decide +kernel
theorem dX7_isBond_22 : decode cX7_isBond 22 = .ok (.iaload, 1) := by decide +kernel
theorem dX7_isBond_23 : decode cX7_isBond 23 = .ok (.if_icmp .gt 7, 3) := by decide +kernel
theorem dX7_isBond_26 : decode cX7_isBond 26 = .ok (.iconst 1, 1) := by decide +kernel
theorem dX7_isBond_27 : decode cX7_isBond 27 = .ok (.goto 4, 3) := by decide +kernel
theorem dX7_isBond_30 : decode cX7_isBond 30 = .ok (.iconst 0, 1) := by decide +kernel
theorem dX7_isBond_31 : decode cX7_isBond 31 = .ok (.ireturn, 1) := by decide +kernel
abbrev rX7_isBond : Room := { frames := 1, cells := 0, slots := 0, locals := 21 }
theorem cal_X7_isBond : CalOk yX7_isBond cX7_isBond 3 (some .boolean) 2 := ⟨wm_3_164, wm_1_1, by decide, by decide, by decide +kernel⟩
def f_X7_isBond (p0 : Nat) (p1 : Int32) (p2 : Int32) (M : Mm) : Option (Int32 × Mm) :=
  ck (gK M p0 = 7) (bd (f_X7_isLoan p0 p1 M) fun v2 M1 =>
  (if v2 = 0 then
    some ((0 : Int32), M1)
  else
    (if p2 < (1 : Int32) then
      some ((0 : Int32), M1)
    else
      ck (gK M1 p0 = 7) (bR (gR M1 p0 0) fun q3 => ck (gK M1 q3 = 6) (bR (gR M1 q3 6) fun q4 => ck (gK M1 q4 = 10 ∧ inb p1 (gN M1 q4)) ((if (gI M1 q4 (p1).toNatClampNeg) < p2 then
        some ((0 : Int32), M1)
      else
        some ((1 : Int32), M1))))))))
set_option maxRecDepth 20000 in
set_option maxHeartbeats 4000000 in
theorem t_X7_isBond (p0 : Nat) (p1 : Int32) (p2 : Int32) (M : Mm) (x : Int32) (M' : Mm) (h : f_X7_isBond p0 p1 p2 M = some (x, M')) : Ctr yX7_isBond cX7_isBond 3 (some .boolean) rX7_isBond (fun _ => [.ref p0, .int p1, .int p2]) M (zI x) M' := by
  refine ctr_of (plainFor_of_name (by decide)) (fun _ => Nat.le_of_ble_eq_true rfl) (fun z hz hin hq => ?_)
  have key : Sim z 0 [(0, .ref p0), (1, .int p1), (2, .int p2)] [] M 0 0 (f_X7_isBond p0 p1 p2 M) (fun a b => a = x ∧ b = M') := by
    have hq : Ret z zI (fun a b => a = x ∧ b = M') := fun a b e => by rw [e.1, e.2]; exact hq
    unfold f_X7_isBond
    refine r_aload_n hz dX7_isBond_0 0 rfl ?_
    refine r_iload_n hz dX7_isBond_1 1 rfl ?_
    refine r_callVi (As := fun _ => [.int p1]) cl7 hz (fun _ _ h => t_X7_isLoan _ _ _ _ _ h) cal_X7_isLoan dX7_isBond_2 wm_3_149 wm_3_151 wm_p_25 rfl rfl (Nat.le_of_ble_eq_true rfl) ⟨(Nat.le_of_ble_eq_true rfl), (Nat.le_of_ble_eq_true rfl)⟩ ⟨(Nat.le_of_ble_eq_true rfl), (Nat.le_of_ble_eq_true rfl)⟩ (fun v2 M1 => ?_)
    refine r_if_eq (tgt := 30) hz dX7_isBond_5 rfl ?_ ?_
    · refine r_iconst (v := 0) hz dX7_isBond_30 rfl ?_
      exact r_zret hz hq dX7_isBond_31 (Or.inl rfl) (Nat.le_of_ble_eq_true rfl) (Nat.le_of_ble_eq_true rfl)
    · refine r_iload_n hz dX7_isBond_8 2 rfl ?_
      refine r_iconst (v := 1) hz dX7_isBond_9 rfl ?_
      refine r_icmp_lt (tgt := 30) hz dX7_isBond_10 rfl ?_ ?_
      · refine r_iconst (v := 0) hz dX7_isBond_30 rfl ?_
        exact r_zret hz hq dX7_isBond_31 (Or.inl rfl) (Nat.le_of_ble_eq_true rfl) (Nat.le_of_ble_eq_true rfl)
      · refine r_iload_n hz dX7_isBond_13 2 rfl ?_
        refine r_aload_n hz dX7_isBond_14 0 rfl ?_
        refine r_getR (j := 0) cl7 hz dX7_isBond_15 (by decide) wm_2_104 rfl (fun q3 => ?_)
        refine r_getR (j := 6) cl6 hz dX7_isBond_18 (by decide) wm_1_57 rfl (fun q4 => ?_)
        refine r_iload_n hz dX7_isBond_21 1 rfl ?_
        refine r_iald hz dX7_isBond_22 ?_
        refine r_icmp_gt (tgt := 30) hz dX7_isBond_23 rfl ?_ ?_
        · refine r_iconst (v := 0) hz dX7_isBond_30 rfl ?_
          exact r_zret hz hq dX7_isBond_31 (Or.inl rfl) (Nat.le_of_ble_eq_true rfl) (Nat.le_of_ble_eq_true rfl)
        · refine r_iconst (v := 1) hz dX7_isBond_26 rfl ?_
          refine r_goto (tgt := 31) hz dX7_isBond_27 rfl ?_
          exact r_zret hz hq dX7_isBond_31 (Or.inr rfl) (Nat.le_of_ble_eq_true rfl) (Nat.le_of_ble_eq_true rfl)
  exact key x M' h ⟨rfl, rfl⟩
theorem dX7_drawnSum_0 : decode cX7_drawnSum 0 = .ok (.aload_n 0, 1) := by decide +kernel
theorem dX7_drawnSum_1 : decode cX7_drawnSum 1 = .ok (.getfield 10, 3) := by decide +kernel
theorem dX7_drawnSum_4 : decode cX7_drawnSum 4 = .ok (.getfield 131, 3) := by decide +kernel
theorem dX7_drawnSum_7 : decode cX7_drawnSum 7 = .ok (.iload_n 1, 1) := by decide +kernel
theorem dX7_drawnSum_8 : decode cX7_drawnSum 8 = .ok (.iaload, 1) := by decide +kernel
theorem dX7_drawnSum_9 : decode cX7_drawnSum 9 = .ok (.aload_n 0, 1) := by decide +kernel
theorem dX7_drawnSum_10 : decode cX7_drawnSum 10 = .ok (.getfield 10, 3) := by decide +kernel
theorem dX7_drawnSum_13 : decode cX7_drawnSum 13 = .ok (.iload_n 1, 1) := by decide +kernel
theorem dX7_drawnSum_14 : decode cX7_drawnSum 14 = .ok (.aload_n 0, 1) := by decide +kernel
theorem dX7_drawnSum_15 : decode cX7_drawnSum 15 = .ok (.getfield 19, 3) := by decide +kernel
theorem dX7_drawnSum_18 : decode cX7_drawnSum 18 = .ok (.getfield 183, 3) := by decide +kernel
theorem dX7_drawnSum_21 : decode cX7_drawnSum 21 = .ok (.iload_n 2, 1) := by decide +kernel
theorem dX7_drawnSum_22 : decode cX7_drawnSum 22 = .ok (.iaload, 1) := by decide +kernel
theorem dX7_drawnSum_23 : decode cX7_drawnSum 23 = .ok (.invokevirtual 344, 3) := by decide +kernel
theorem dX7_drawnSum_26 : decode cX7_drawnSum 26 = .ok (.iadd, 1) := by decide +kernel
theorem dX7_drawnSum_27 : decode cX7_drawnSum 27 = .ok (.ireturn, 1) := by decide +kernel
abbrev rX7_drawnSum : Room := { frames := 2, cells := 0, slots := 0, locals := 43 }
theorem cal_X7_drawnSum : CalOk yX7_drawnSum cX7_drawnSum 3 (some .int) 2 := ⟨wm_3_177, wm_1_1, by decide, by decide, by decide +kernel⟩
def f_X7_drawnSum (p0 : Nat) (p1 : Int32) (p2 : Int32) (M : Mm) : Option (Int32 × Mm) :=
  ck (gK M p0 = 7) (bR (gR M p0 0) fun q1 => ck (gK M q1 = 6) (bR (gR M q1 7) fun q2 => ck (gK M q2 = 10 ∧ inb p1 (gN M q2)) (ck (gK M p0 = 7) (bR (gR M p0 0) fun q3 => ck (gK M p0 = 7) (bR (gR M p0 1) fun q4 => ck (gK M q4 = 5) (bR (gR M q4 9) fun q5 => ck (gK M q5 = 10 ∧ inb p2 (gN M q5)) (ck (gK M q3 = 6) (bd (f_X6_prizeOf q3 p1 (gI M q5 (p2).toNatClampNeg) M) fun v7 M6 =>
  some (((gI M q2 (p1).toNatClampNeg) + v7), M6)))))))))
set_option maxRecDepth 20000 in
set_option maxHeartbeats 4000000 in
theorem t_X7_drawnSum (p0 : Nat) (p1 : Int32) (p2 : Int32) (M : Mm) (x : Int32) (M' : Mm) (h : f_X7_drawnSum p0 p1 p2 M = some (x, M')) : Ctr yX7_drawnSum cX7_drawnSum 3 (some .int) rX7_drawnSum (fun _ => [.ref p0, .int p1, .int p2]) M (zI x) M' := by
  refine ctr_of (plainFor_of_name (by decide)) (fun _ => Nat.le_of_ble_eq_true rfl) (fun z hz hin hq => ?_)
  have key : Sim z 0 [(0, .ref p0), (1, .int p1), (2, .int p2)] [] M 0 0 (f_X7_drawnSum p0 p1 p2 M) (fun a b => a = x ∧ b = M') := by
    have hq : Ret z zI (fun a b => a = x ∧ b = M') := fun a b e => by rw [e.1, e.2]; exact hq
    unfold f_X7_drawnSum
    refine r_aload_n hz dX7_drawnSum_0 0 rfl ?_
    refine r_getR (j := 0) cl7 hz dX7_drawnSum_1 (by decide) wm_2_104 rfl (fun q1 => ?_)
    refine r_getR (j := 7) cl6 hz dX7_drawnSum_4 (by decide) wm_1_62 rfl (fun q2 => ?_)
    refine r_iload_n hz dX7_drawnSum_7 1 rfl ?_
    refine r_iald hz dX7_drawnSum_8 ?_
    refine r_aload_n hz dX7_drawnSum_9 0 rfl ?_
    refine r_getR (j := 0) cl7 hz dX7_drawnSum_10 (by decide) wm_2_104 rfl (fun q3 => ?_)
    refine r_iload_n hz dX7_drawnSum_13 1 rfl ?_
    refine r_aload_n hz dX7_drawnSum_14 0 rfl ?_
    refine r_getR (j := 1) cl7 hz dX7_drawnSum_15 (by decide) wm_2_105 rfl (fun q4 => ?_)
    refine r_getR (j := 9) cl5 hz dX7_drawnSum_18 (by decide) wm_1_166 rfl (fun q5 => ?_)
    refine r_iload_n hz dX7_drawnSum_21 2 rfl ?_
    refine r_iald hz dX7_drawnSum_22 ?_
    refine r_callVi (As := fun _ => [.int p1, .int (gI M q5 (p2).toNatClampNeg)]) cl6 hz (fun _ _ h => t_X6_prizeOf _ _ _ _ _ _ h) cal_X6_prizeOf dX7_drawnSum_23 wm_3_178 wm_3_179 wm_3_180 rfl rfl (Nat.le_of_ble_eq_true rfl) ⟨(Nat.le_of_ble_eq_true rfl), (Nat.le_of_ble_eq_true rfl)⟩ ⟨(Nat.le_of_ble_eq_true rfl), (Nat.le_of_ble_eq_true rfl)⟩ (fun v7 M6 => ?_)
    refine r_iadd hz dX7_drawnSum_26 ?_
    exact r_iret hz hq dX7_drawnSum_27 (Nat.le_of_ble_eq_true rfl) (Nat.le_of_ble_eq_true rfl)
  exact key x M' h ⟨rfl, rfl⟩
theorem dX7_sharePaid_0 : decode cX7_sharePaid 0 = .ok (.aload_n 0, 1) := by decide +kernel
theorem dX7_sharePaid_1 : decode cX7_sharePaid 1 = .ok (.getfield 19, 3) := by decide +kernel
theorem dX7_sharePaid_4 : decode cX7_sharePaid 4 = .ok (.getfield 174, 3) := by decide +kernel
theorem dX7_sharePaid_7 : decode cX7_sharePaid 7 = .ok (.iload_n 2, 1) := by decide +kernel
theorem dX7_sharePaid_8 : decode cX7_sharePaid 8 = .ok (.iaload, 1) := by decide +kernel
theorem dX7_sharePaid_9 : decode cX7_sharePaid 9 = .ok (.istore 4, 2) := by decide +kernel
theorem dX7_sharePaid_11 : decode cX7_sharePaid 11 = .ok (.iload_n 3, 1) := by decide +kernel
theorem dX7_sharePaid_12 : decode cX7_sharePaid 12 = .ok (.tableswitch 154 0 4 #[36, 71, 88, 120, 137], 36) := by decide +kernel
theorem dX7_sharePaid_48 : decode cX7_sharePaid 48 = .ok (.aload_n 0, 1) := by decide +kernel
theorem dX7_sharePaid_49 : decode cX7_sharePaid 49 = .ok (.getfield 10, 3) := by decide +kernel
theorem dX7_sharePaid_52 : decode cX7_sharePaid 52 = .ok (.getfield 134, 3) := by decide +kernel
theorem dX7_sharePaid_55 : decode cX7_sharePaid 55 = .ok (.iload_n 1, 1) := by decide +kernel
theorem dX7_sharePaid_56 : decode cX7_sharePaid 56 = .ok (.iaload, 1) := by decide +kernel
theorem dX7_sharePaid_57 : decode cX7_sharePaid 57 = .ok (.iload 4, 2) := by decide +kernel
theorem dX7_sharePaid_59 : decode cX7_sharePaid 59 = .ok (.ifCond .ne 13, 3) := by decide +kernel
theorem dX7_sharePaid_62 : decode cX7_sharePaid 62 = .ok (.aload_n 0, 1) := by decide +kernel
theorem dX7_sharePaid_63 : decode cX7_sharePaid 63 = .ok (.getfield 19, 3) := by decide +kernel
theorem dX7_sharePaid_66 : decode cX7_sharePaid 66 = .ok (.getfield 102, 3) := by decide +kernel
theorem dX7_sharePaid_69 : decode cX7_sharePaid 69 = .ok (.goto 12, 3) := by decide +kernel
theorem dX7_sharePaid_72 : decode cX7_sharePaid 72 = .ok (.aload_n 0, 1) := by decide +kernel
theorem dX7_sharePaid_73 : decode cX7_sharePaid 73 = .ok (.getfield 19, 3) := by decide +kernel
theorem dX7_sharePaid_76 : decode cX7_sharePaid 76 = .ok (.getfield 180, 3) := by decide +kernel
theorem dX7_sharePaid_79 : decode cX7_sharePaid 79 = .ok (.iload_n 2, 1) := by decide +kernel
theorem dX7_sharePaid_80 : decode cX7_sharePaid 80 = .ok (.iaload, 1) := by decide +kernel
theorem dX7_sharePaid_81 : decode cX7_sharePaid 81 = .ok (.imul, 1) := by decide +kernel
theorem dX7_sharePaid_82 : decode cX7_sharePaid 82 = .ok (.ireturn, 1) := by decide +kernel
theorem dX7_sharePaid_83 : decode cX7_sharePaid 83 = .ok (.iload 4, 2) := by decide +kernel
theorem dX7_sharePaid_85 : decode cX7_sharePaid 85 = .ok (.iconst 2, 1) := by decide +kernel
theorem dX7_sharePaid_86 : decode cX7_sharePaid 86 = .ok (.if_icmp .ne 12, 3) := by decide +kernel
theorem dX7_sharePaid_89 : decode cX7_sharePaid 89 = .ok (.aload_n 0, 1) := by decide +kernel
theorem dX7_sharePaid_90 : decode cX7_sharePaid 90 = .ok (.iload_n 1, 1) := by decide +kernel
theorem dX7_sharePaid_91 : decode cX7_sharePaid 91 = .ok (.iload_n 2, 1) := by decide +kernel
theorem dX7_sharePaid_92 : decode cX7_sharePaid 92 = .ok (.invokevirtual 246, 3) := by decide +kernel
theorem dX7_sharePaid_95 : decode cX7_sharePaid 95 = .ok (.goto 4, 3) := by decide +kernel
theorem dX7_sharePaid_98 : decode cX7_sharePaid 98 = .ok (.iconst 0, 1) := by decide +kernel
theorem dX7_sharePaid_99 : decode cX7_sharePaid 99 = .ok (.ireturn, 1) := by decide +kernel
theorem dX7_sharePaid_100 : decode cX7_sharePaid 100 = .ok (.iload 4, 2) := by decide +kernel
theorem dX7_sharePaid_102 : decode cX7_sharePaid 102 = .ok (.iconst 3, 1) := by decide +kernel
theorem dX7_sharePaid_103 : decode cX7_sharePaid 103 = .ok (.if_icmp .ne 27, 3) := by decide +kernel
theorem dX7_sharePaid_106 : decode cX7_sharePaid 106 = .ok (.aload_n 0, 1) := by decide +kernel
theorem dX7_sharePaid_107 : decode cX7_sharePaid 107 = .ok (.getfield 19, 3) := by decide +kernel
theorem dX7_sharePaid_110 : decode cX7_sharePaid 110 = .ok (.getfield 193, 3) := by decide +kernel
theorem dX7_sharePaid_113 : decode cX7_sharePaid 113 = .ok (.iload_n 1, 1) := by decide +kernel
theorem dX7_sharePaid_114 : decode cX7_sharePaid 114 = .ok (.aload_n 0, 1) := by decide +kernel
theorem dX7_sharePaid_115 : decode cX7_sharePaid 115 = .ok (.getfield 19, 3) := by decide +kernel
theorem dX7_sharePaid_118 : decode cX7_sharePaid 118 = .ok (.getfield 180, 3) := by decide +kernel
theorem dX7_sharePaid_121 : decode cX7_sharePaid 121 = .ok (.iload_n 2, 1) := by decide +kernel
theorem dX7_sharePaid_122 : decode cX7_sharePaid 122 = .ok (.iaload, 1) := by decide +kernel
theorem dX7_sharePaid_123 : decode cX7_sharePaid 123 = .ok (.invokestatic 196, 3) := by decide +kernel
theorem dX7_sharePaid_126 : decode cX7_sharePaid 126 = .ok (.iaload, 1) := by decide +kernel
theorem dX7_sharePaid_127 : decode cX7_sharePaid 127 = .ok (.goto 4, 3) := by decide +kernel
theorem dX7_sharePaid_130 : decode cX7_sharePaid 130 = .ok (.iconst 0, 1) := by decide +kernel
theorem dX7_sharePaid_131 : decode cX7_sharePaid 131 = .ok (.ireturn, 1) := by decide +kernel
theorem dX7_sharePaid_132 : decode cX7_sharePaid 132 = .ok (.iload 4, 2) := by decide +kernel
theorem dX7_sharePaid_134 : decode cX7_sharePaid 134 = .ok (.iconst 4, 1) := by decide +kernel
theorem dX7_sharePaid_135 : decode cX7_sharePaid 135 = .ok (.if_icmp .ne 12, 3) := by decide +kernel
theorem dX7_sharePaid_138 : decode cX7_sharePaid 138 = .ok (.aload_n 0, 1) := by decide +kernel
theorem dX7_sharePaid_139 : decode cX7_sharePaid 139 = .ok (.iload_n 1, 1) := by decide +kernel
theorem dX7_sharePaid_140 : decode cX7_sharePaid 140 = .ok (.iload_n 2, 1) := by decide +kernel
theorem dX7_sharePaid_141 : decode cX7_sharePaid 141 = .ok (.invokevirtual 246, 3) := by decide +kernel
theorem dX7_sharePaid_144 : decode cX7_sharePaid 144 = .ok (.goto 4, 3) := by decide +kernel
theorem dX7_sharePaid_147 : decode cX7_sharePaid 147 = .ok (.iconst 0, 1) := by decide +kernel
theorem dX7_sharePaid_148 : decode cX7_sharePaid 148 = .ok (.ireturn, 1) := by decide +kernel
theorem dX7_sharePaid_149 : decode cX7_sharePaid 149 = .ok (.iload 4, 2) := by decide +kernel
theorem dX7_sharePaid_151 : decode cX7_sharePaid 151 = .ok (.iconst 1, 1) := by decide +kernel
theorem dX7_sharePaid_152 : decode cX7_sharePaid 152 = .ok (.if_icmp .ne 12, 3) := by decide +kernel
theorem dX7_sharePaid_155 : decode cX7_sharePaid 155 = .ok (.aload_n 0, 1) := by decide +kernel
theorem dX7_sharePaid_156 : decode cX7_sharePaid 156 = .ok (.iload_n 1, 1) := by decide +kernel
theorem dX7_sharePaid_157 : decode cX7_sharePaid 157 = .ok (.iload_n 2, 1) := by decide +kernel
theorem dX7_sharePaid_158 : decode cX7_sharePaid 158 = .ok (.invokevirtual 246, 3) := by decide +kernel
theorem dX7_sharePaid_161 : decode cX7_sharePaid 161 = .ok (.goto 4, 3) := by decide +kernel
theorem dX7_sharePaid_164 : decode cX7_sharePaid 164 = .ok (.iconst 0, 1) := by decide +kernel
theorem dX7_sharePaid_165 : decode cX7_sharePaid 165 = .ok (.ireturn, 1) := by decide +kernel
theorem dX7_sharePaid_166 : decode cX7_sharePaid 166 = .ok (.iload 4, 2) := by decide +kernel
theorem dX7_sharePaid_168 : decode cX7_sharePaid 168 = .ok (.iconst 3, 1) := by decide +kernel
theorem dX7_sharePaid_169 : decode cX7_sharePaid 169 = .ok (.if_icmp .ne 37, 3) := by decide +kernel
theorem dX7_sharePaid_172 : decode cX7_sharePaid 172 = .ok (.aload_n 0, 1) := by decide +kernel
theorem dX7_sharePaid_173 : decode cX7_sharePaid 173 = .ok (.getfield 10, 3) := by decide +kernel
theorem dX7_sharePaid_176 : decode cX7_sharePaid 176 = .ok (.getfield 131, 3) := by decide +kernel
theorem dX7_sharePaid_179 : decode cX7_sharePaid 179 = .ok (.iload_n 1, 1) := by decide +kernel
theorem dX7_sharePaid_180 : decode cX7_sharePaid 180 = .ok (.iaload, 1) := by decide +kernel
theorem dX7_sharePaid_181 : decode cX7_sharePaid 181 = .ok (.aload_n 0, 1) := by decide +kernel
theorem dX7_sharePaid_182 : decode cX7_sharePaid 182 = .ok (.getfield 19, 3) := by decide +kernel
theorem dX7_sharePaid_185 : decode cX7_sharePaid 185 = .ok (.getfield 193, 3) := by decide +kernel
theorem dX7_sharePaid_188 : decode cX7_sharePaid 188 = .ok (.iload_n 1, 1) := by decide +kernel
theorem dX7_sharePaid_189 : decode cX7_sharePaid 189 = .ok (.aload_n 0, 1) := by decide +kernel
theorem dX7_sharePaid_190 : decode cX7_sharePaid 190 = .ok (.getfield 19, 3) := by decide +kernel
theorem dX7_sharePaid_193 : decode cX7_sharePaid 193 = .ok (.getfield 180, 3) := by decide +kernel
theorem dX7_sharePaid_196 : decode cX7_sharePaid 196 = .ok (.iload_n 2, 1) := by decide +kernel
theorem dX7_sharePaid_197 : decode cX7_sharePaid 197 = .ok (.iaload, 1) := by decide +kernel
theorem dX7_sharePaid_198 : decode cX7_sharePaid 198 = .ok (.invokestatic 196, 3) := by decide +kernel
theorem dX7_sharePaid_201 : decode cX7_sharePaid 201 = .ok (.iaload, 1) := by decide +kernel
theorem dX7_sharePaid_202 : decode cX7_sharePaid 202 = .ok (.isub, 1) := by decide +kernel
theorem dX7_sharePaid_203 : decode cX7_sharePaid 203 = .ok (.goto 4, 3) := by decide +kernel
theorem dX7_sharePaid_206 : decode cX7_sharePaid 206 = .ok (.iconst 0, 1) := by decide +kernel
theorem dX7_sharePaid_207 : decode cX7_sharePaid 207 = .ok (.ireturn, 1) := by decide +kernel
abbrev rX7_sharePaid : Room := { frames := 3, cells := 0, slots := 0, locals := 65 }
theorem cal_X7_sharePaid : CalOk yX7_sharePaid cX7_sharePaid 5 (some .int) 3 := ⟨wm_3_173, wm_1_1, by decide, by decide, by decide +kernel⟩
def f_X7_sharePaid (p0 : Nat) (p1 : Int32) (p2 : Int32) (p3 : Int32) (M : Mm) : Option (Int32 × Mm) :=
  ck (gK M p0 = 7) (bR (gR M p0 1) fun q1 => ck (gK M q1 = 5) (bR (gR M q1 6) fun q2 => ck (gK M q2 = 10 ∧ inb p2 (gN M q2)) (nm (gI M q2 (p2).toNatClampNeg) fun v3 =>
  (if p3 = (0 : Int32) then
    ck (gK M p0 = 7) (bR (gR M p0 0) fun q4 => ck (gK M q4 = 6) (bR (gR M q4 8) fun q5 => ck (gK M q5 = 10 ∧ inb p1 (gN M q5)) ((if ¬ v3 = 0 then
      ck (gK M p0 = 7) (bR (gR M p0 1) fun q6 => ck (gK M q6 = 5) (bR (gR M q6 8) fun q7 => ck (gK M q7 = 10 ∧ inb p2 (gN M q7)) (some (((gI M q5 (p1).toNatClampNeg) * (gI M q7 (p2).toNatClampNeg)), M))))
    else
      ck (gK M p0 = 7) (bR (gR M p0 1) fun q8 => ck (gK M q8 = 5) (some (((gI M q5 (p1).toNatClampNeg) * (gI M q8 0)), M)))))))
  else
  (if p3 = (1 : Int32) then
    (if ¬ v3 = (2 : Int32) then
      some ((0 : Int32), M)
    else
      ck (gK M p0 = 7) (bd (f_X7_drawnSum p0 p1 p2 M) fun v10 M9 =>
      some (v10, M9)))
  else
  (if p3 = (2 : Int32) then
    (if ¬ v3 = (3 : Int32) then
      some ((0 : Int32), M)
    else
      ck (gK M p0 = 7) (bR (gR M p0 1) fun q11 => ck (gK M q11 = 5) (bR (gR M q11 4) fun q12 => ck (gK M p0 = 7) (bR (gR M p0 1) fun q13 => ck (gK M q13 = 5) (bR (gR M q13 8) fun q14 => ck (gK M q14 = 10 ∧ inb p2 (gN M q14)) (bd (f_X7_cellOf p1 (gI M q14 (p2).toNatClampNeg) M) fun v16 M15 =>
      ck (gK M15 q12 = 10 ∧ inb v16 (gN M15 q12)) (some ((gI M15 q12 (v16).toNatClampNeg), M15))))))))
  else
  (if p3 = (3 : Int32) then
    (if ¬ v3 = (4 : Int32) then
      some ((0 : Int32), M)
    else
      ck (gK M p0 = 7) (bd (f_X7_drawnSum p0 p1 p2 M) fun v18 M17 =>
      some (v18, M17)))
  else
  (if p3 = (4 : Int32) then
    (if ¬ v3 = (1 : Int32) then
      some ((0 : Int32), M)
    else
      ck (gK M p0 = 7) (bd (f_X7_drawnSum p0 p1 p2 M) fun v20 M19 =>
      some (v20, M19)))
  else
    (if ¬ v3 = (3 : Int32) then
      some ((0 : Int32), M)
    else
      ck (gK M p0 = 7) (bR (gR M p0 0) fun q21 => ck (gK M q21 = 6) (bR (gR M q21 7) fun q22 => ck (gK M q22 = 10 ∧ inb p1 (gN M q22)) (ck (gK M p0 = 7) (bR (gR M p0 1) fun q23 => ck (gK M q23 = 5) (bR (gR M q23 4) fun q24 => ck (gK M p0 = 7) (bR (gR M p0 1) fun q25 => ck (gK M q25 = 5) (bR (gR M q25 8) fun q26 => ck (gK M q26 = 10 ∧ inb p2 (gN M q26)) (bd (f_X7_cellOf p1 (gI M q26 (p2).toNatClampNeg) M) fun v28 M27 =>
      ck (gK M27 q24 = 10 ∧ inb v28 (gN M27 q24)) (some (((gI M q22 (p1).toNatClampNeg) - (gI M27 q24 (v28).toNatClampNeg)), M27)))))))))))))))))))
set_option maxRecDepth 20000 in
set_option maxHeartbeats 4000000 in
theorem t_X7_sharePaid (p0 : Nat) (p1 : Int32) (p2 : Int32) (p3 : Int32) (M : Mm) (x : Int32) (M' : Mm) (h : f_X7_sharePaid p0 p1 p2 p3 M = some (x, M')) : Ctr yX7_sharePaid cX7_sharePaid 5 (some .int) rX7_sharePaid (fun _ => [.ref p0, .int p1, .int p2, .int p3]) M (zI x) M' := by
  refine ctr_of (plainFor_of_name (by decide)) (fun _ => Nat.le_of_ble_eq_true rfl) (fun z hz hin hq => ?_)
  have key : Sim z 0 [(0, .ref p0), (1, .int p1), (2, .int p2), (3, .int p3)] [] M 0 0 (f_X7_sharePaid p0 p1 p2 p3 M) (fun a b => a = x ∧ b = M') := by
    have hq : Ret z zI (fun a b => a = x ∧ b = M') := fun a b e => by rw [e.1, e.2]; exact hq
    unfold f_X7_sharePaid
    refine r_aload_n hz dX7_sharePaid_0 0 rfl ?_
    refine r_getR (j := 1) cl7 hz dX7_sharePaid_1 (by decide) wm_2_105 rfl (fun q1 => ?_)
    refine r_getR (j := 6) cl5 hz dX7_sharePaid_4 (by decide) wm_1_157 rfl (fun q2 => ?_)
    refine r_iload_n hz dX7_sharePaid_7 2 rfl ?_
    refine r_iald hz dX7_sharePaid_8 ?_
    refine r_nmi (fun v3 => ?_)
    refine r_istore (lv' := [(4, .int v3), (0, .ref p0), (1, .int p1), (2, .int p2), (3, .int p3)]) hz dX7_sharePaid_9 (by decide) rfl ?_
    refine r_iload_n hz dX7_sharePaid_11 4 rfl ?_
    refine r_swc (v := 0) (tgt := 48) hz dX7_sharePaid_12 (by decide) (by decide) rfl rfl ?_ (fun n0 => ?_)
    · refine r_aload_n hz dX7_sharePaid_48 1 rfl ?_
      refine r_getR (j := 0) cl7 hz dX7_sharePaid_49 (by decide) wm_2_104 rfl (fun q4 => ?_)
      refine r_getR (j := 8) cl6 hz dX7_sharePaid_52 (by decide) wm_1_66 rfl (fun q5 => ?_)
      refine r_iload_n hz dX7_sharePaid_55 2 rfl ?_
      refine r_iald hz dX7_sharePaid_56 ?_
      refine r_iload hz dX7_sharePaid_57 0 rfl ?_
      refine r_if_ne (tgt := 72) hz dX7_sharePaid_59 rfl ?_ ?_
      · refine r_aload_n hz dX7_sharePaid_72 1 rfl ?_
        refine r_getR (j := 1) cl7 hz dX7_sharePaid_73 (by decide) wm_2_105 rfl (fun q6 => ?_)
        refine r_getR (j := 8) cl5 hz dX7_sharePaid_76 (by decide) wm_1_164 rfl (fun q7 => ?_)
        refine r_iload_n hz dX7_sharePaid_79 3 rfl ?_
        refine r_iald hz dX7_sharePaid_80 ?_
        refine r_imul hz dX7_sharePaid_81 ?_
        exact r_iret hz hq dX7_sharePaid_82 (Nat.le_of_ble_eq_true rfl) (Nat.le_of_ble_eq_true rfl)
      · refine r_aload_n hz dX7_sharePaid_62 1 rfl ?_
        refine r_getR (j := 1) cl7 hz dX7_sharePaid_63 (by decide) wm_2_105 rfl (fun q8 => ?_)
        refine r_getI (j := 0) cl5 hz dX7_sharePaid_66 (by decide) wm_1_142 rfl ?_
        refine r_goto (tgt := 81) hz dX7_sharePaid_69 rfl ?_
        refine r_imul hz dX7_sharePaid_81 ?_
        exact r_iret hz hq dX7_sharePaid_82 (Nat.le_of_ble_eq_true rfl) (Nat.le_of_ble_eq_true rfl)
    refine r_swc (v := 1) (tgt := 83) hz dX7_sharePaid_12 (by decide) (by decide) rfl rfl ?_ (fun n1 => ?_)
    · refine r_iload hz dX7_sharePaid_83 0 rfl ?_
      refine r_iconst (v := 2) hz dX7_sharePaid_85 rfl ?_
      refine r_icmp_ne (tgt := 98) hz dX7_sharePaid_86 rfl ?_ ?_
      · refine r_iconst (v := 0) hz dX7_sharePaid_98 rfl ?_
        exact r_iret hz hq dX7_sharePaid_99 (Nat.le_of_ble_eq_true rfl) (Nat.le_of_ble_eq_true rfl)
      · refine r_aload_n hz dX7_sharePaid_89 1 rfl ?_
        refine r_iload_n hz dX7_sharePaid_90 2 rfl ?_
        refine r_iload_n hz dX7_sharePaid_91 3 rfl ?_
        refine r_callVi (As := fun _ => [.int p1, .int p2]) cl7 hz (fun _ _ h => t_X7_drawnSum _ _ _ _ _ _ h) cal_X7_drawnSum dX7_sharePaid_92 wm_3_174 wm_3_176 wm_p_29 rfl rfl (Nat.le_of_ble_eq_true rfl) ⟨(Nat.le_of_ble_eq_true rfl), (Nat.le_of_ble_eq_true rfl)⟩ ⟨(Nat.le_of_ble_eq_true rfl), (Nat.le_of_ble_eq_true rfl)⟩ (fun v10 M9 => ?_)
        refine r_goto (tgt := 99) hz dX7_sharePaid_95 rfl ?_
        exact r_iret hz hq dX7_sharePaid_99 (Nat.le_of_ble_eq_true rfl) (Nat.le_of_ble_eq_true rfl)
    refine r_swc (v := 2) (tgt := 100) hz dX7_sharePaid_12 (by decide) (by decide) rfl rfl ?_ (fun n2 => ?_)
    · refine r_iload hz dX7_sharePaid_100 0 rfl ?_
      refine r_iconst (v := 3) hz dX7_sharePaid_102 rfl ?_
      refine r_icmp_ne (tgt := 130) hz dX7_sharePaid_103 rfl ?_ ?_
      · refine r_iconst (v := 0) hz dX7_sharePaid_130 rfl ?_
        exact r_iret hz hq dX7_sharePaid_131 (Nat.le_of_ble_eq_true rfl) (Nat.le_of_ble_eq_true rfl)
      · refine r_aload_n hz dX7_sharePaid_106 1 rfl ?_
        refine r_getR (j := 1) cl7 hz dX7_sharePaid_107 (by decide) wm_2_105 rfl (fun q11 => ?_)
        refine r_getR (j := 4) cl5 hz dX7_sharePaid_110 (by decide) wm_1_152 rfl (fun q12 => ?_)
        refine r_iload_n hz dX7_sharePaid_113 2 rfl ?_
        refine r_aload_n hz dX7_sharePaid_114 1 rfl ?_
        refine r_getR (j := 1) cl7 hz dX7_sharePaid_115 (by decide) wm_2_105 rfl (fun q13 => ?_)
        refine r_getR (j := 8) cl5 hz dX7_sharePaid_118 (by decide) wm_1_164 rfl (fun q14 => ?_)
        refine r_iload_n hz dX7_sharePaid_121 3 rfl ?_
        refine r_iald hz dX7_sharePaid_122 ?_
        refine r_callSi (As := fun _ => [.int p1, .int (gI M q14 (p2).toNatClampNeg)]) hz (fun _ _ h => t_X7_cellOf _ _ _ _ _ h) cal_X7_cellOf dX7_sharePaid_123 wm_3_183 wm_3_100 rfl rfl (Nat.le_of_ble_eq_true rfl) ⟨(Nat.le_of_ble_eq_true rfl), (Nat.le_of_ble_eq_true rfl)⟩ ⟨(Nat.le_of_ble_eq_true rfl), (Nat.le_of_ble_eq_true rfl)⟩ (fun v16 M15 => ?_)
        refine r_iald hz dX7_sharePaid_126 ?_
        refine r_goto (tgt := 131) hz dX7_sharePaid_127 rfl ?_
        exact r_iret hz hq dX7_sharePaid_131 (Nat.le_of_ble_eq_true rfl) (Nat.le_of_ble_eq_true rfl)
    refine r_swc (v := 3) (tgt := 132) hz dX7_sharePaid_12 (by decide) (by decide) rfl rfl ?_ (fun n3 => ?_)
    · refine r_iload hz dX7_sharePaid_132 0 rfl ?_
      refine r_iconst (v := 4) hz dX7_sharePaid_134 rfl ?_
      refine r_icmp_ne (tgt := 147) hz dX7_sharePaid_135 rfl ?_ ?_
      · refine r_iconst (v := 0) hz dX7_sharePaid_147 rfl ?_
        exact r_iret hz hq dX7_sharePaid_148 (Nat.le_of_ble_eq_true rfl) (Nat.le_of_ble_eq_true rfl)
      · refine r_aload_n hz dX7_sharePaid_138 1 rfl ?_
        refine r_iload_n hz dX7_sharePaid_139 2 rfl ?_
        refine r_iload_n hz dX7_sharePaid_140 3 rfl ?_
        refine r_callVi (As := fun _ => [.int p1, .int p2]) cl7 hz (fun _ _ h => t_X7_drawnSum _ _ _ _ _ _ h) cal_X7_drawnSum dX7_sharePaid_141 wm_3_174 wm_3_176 wm_p_29 rfl rfl (Nat.le_of_ble_eq_true rfl) ⟨(Nat.le_of_ble_eq_true rfl), (Nat.le_of_ble_eq_true rfl)⟩ ⟨(Nat.le_of_ble_eq_true rfl), (Nat.le_of_ble_eq_true rfl)⟩ (fun v18 M17 => ?_)
        refine r_goto (tgt := 148) hz dX7_sharePaid_144 rfl ?_
        exact r_iret hz hq dX7_sharePaid_148 (Nat.le_of_ble_eq_true rfl) (Nat.le_of_ble_eq_true rfl)
    refine r_swc (v := 4) (tgt := 149) hz dX7_sharePaid_12 (by decide) (by decide) rfl rfl ?_ (fun n4 => ?_)
    · refine r_iload hz dX7_sharePaid_149 0 rfl ?_
      refine r_iconst (v := 1) hz dX7_sharePaid_151 rfl ?_
      refine r_icmp_ne (tgt := 164) hz dX7_sharePaid_152 rfl ?_ ?_
      · refine r_iconst (v := 0) hz dX7_sharePaid_164 rfl ?_
        exact r_iret hz hq dX7_sharePaid_165 (Nat.le_of_ble_eq_true rfl) (Nat.le_of_ble_eq_true rfl)
      · refine r_aload_n hz dX7_sharePaid_155 1 rfl ?_
        refine r_iload_n hz dX7_sharePaid_156 2 rfl ?_
        refine r_iload_n hz dX7_sharePaid_157 3 rfl ?_
        refine r_callVi (As := fun _ => [.int p1, .int p2]) cl7 hz (fun _ _ h => t_X7_drawnSum _ _ _ _ _ _ h) cal_X7_drawnSum dX7_sharePaid_158 wm_3_174 wm_3_176 wm_p_29 rfl rfl (Nat.le_of_ble_eq_true rfl) ⟨(Nat.le_of_ble_eq_true rfl), (Nat.le_of_ble_eq_true rfl)⟩ ⟨(Nat.le_of_ble_eq_true rfl), (Nat.le_of_ble_eq_true rfl)⟩ (fun v20 M19 => ?_)
        refine r_goto (tgt := 165) hz dX7_sharePaid_161 rfl ?_
        exact r_iret hz hq dX7_sharePaid_165 (Nat.le_of_ble_eq_true rfl) (Nat.le_of_ble_eq_true rfl)
    refine r_swd (tgt := 166) hz dX7_sharePaid_12 (by have n0q := lv_neT n0 (show (0 : Int32).toInt = 0 from rfl); have n1q := lv_neT n1 (show (1 : Int32).toInt = 1 from rfl); have n2q := lv_neT n2 (show (2 : Int32).toInt = 2 from rfl); have n3q := lv_neT n3 (show (3 : Int32).toInt = 3 from rfl); have n4q := lv_neT n4 (show (4 : Int32).toInt = 4 from rfl); omega) rfl ?_
    refine r_iload hz dX7_sharePaid_166 0 rfl ?_
    refine r_iconst (v := 3) hz dX7_sharePaid_168 rfl ?_
    refine r_icmp_ne (tgt := 206) hz dX7_sharePaid_169 rfl ?_ ?_
    · refine r_iconst (v := 0) hz dX7_sharePaid_206 rfl ?_
      exact r_iret hz hq dX7_sharePaid_207 (Nat.le_of_ble_eq_true rfl) (Nat.le_of_ble_eq_true rfl)
    · refine r_aload_n hz dX7_sharePaid_172 1 rfl ?_
      refine r_getR (j := 0) cl7 hz dX7_sharePaid_173 (by decide) wm_2_104 rfl (fun q21 => ?_)
      refine r_getR (j := 7) cl6 hz dX7_sharePaid_176 (by decide) wm_1_62 rfl (fun q22 => ?_)
      refine r_iload_n hz dX7_sharePaid_179 2 rfl ?_
      refine r_iald hz dX7_sharePaid_180 ?_
      refine r_aload_n hz dX7_sharePaid_181 1 rfl ?_
      refine r_getR (j := 1) cl7 hz dX7_sharePaid_182 (by decide) wm_2_105 rfl (fun q23 => ?_)
      refine r_getR (j := 4) cl5 hz dX7_sharePaid_185 (by decide) wm_1_152 rfl (fun q24 => ?_)
      refine r_iload_n hz dX7_sharePaid_188 2 rfl ?_
      refine r_aload_n hz dX7_sharePaid_189 1 rfl ?_
      refine r_getR (j := 1) cl7 hz dX7_sharePaid_190 (by decide) wm_2_105 rfl (fun q25 => ?_)
      refine r_getR (j := 8) cl5 hz dX7_sharePaid_193 (by decide) wm_1_164 rfl (fun q26 => ?_)
      refine r_iload_n hz dX7_sharePaid_196 3 rfl ?_
      refine r_iald hz dX7_sharePaid_197 ?_
      refine r_callSi (As := fun _ => [.int p1, .int (gI M q26 (p2).toNatClampNeg)]) hz (fun _ _ h => t_X7_cellOf _ _ _ _ _ h) cal_X7_cellOf dX7_sharePaid_198 wm_3_183 wm_3_100 rfl rfl (Nat.le_of_ble_eq_true rfl) ⟨(Nat.le_of_ble_eq_true rfl), (Nat.le_of_ble_eq_true rfl)⟩ ⟨(Nat.le_of_ble_eq_true rfl), (Nat.le_of_ble_eq_true rfl)⟩ (fun v28 M27 => ?_)
      refine r_iald hz dX7_sharePaid_201 ?_
      refine r_isub hz dX7_sharePaid_202 ?_
      refine r_goto (tgt := 207) hz dX7_sharePaid_203 rfl ?_
      exact r_iret hz hq dX7_sharePaid_207 (Nat.le_of_ble_eq_true rfl) (Nat.le_of_ble_eq_true rfl)
  exact key x M' h ⟨rfl, rfl⟩
theorem dX7_gotBy_0 : decode cX7_gotBy 0 = .ok (.aload_n 0, 1) := by decide +kernel
theorem dX7_gotBy_1 : decode cX7_gotBy 1 = .ok (.iload_n 1, 1) := by decide +kernel
theorem dX7_gotBy_2 : decode cX7_gotBy 2 = .ok (.iload_n 2, 1) := by decide +kernel
theorem dX7_gotBy_3 : decode cX7_gotBy 3 = .ok (.iconst 0, 1) := by decide +kernel
theorem dX7_gotBy_4 : decode cX7_gotBy 4 = .ok (.invokevirtual 189, 3) := by decide +kernel
theorem dX7_gotBy_7 : decode cX7_gotBy 7 = .ok (.aload_n 0, 1) := by decide +kernel
theorem dX7_gotBy_8 : decode cX7_gotBy 8 = .ok (.iload_n 1, 1) := by decide +kernel
theorem dX7_gotBy_9 : decode cX7_gotBy 9 = .ok (.iload_n 2, 1) := by decide +kernel
theorem dX7_gotBy_10 : decode cX7_gotBy 10 = .ok (.iconst 1, 1) := by decide +kernel
theorem dX7_gotBy_11 : decode cX7_gotBy 11 = .ok (.invokevirtual 189, 3) := by decide +kernel
theorem dX7_gotBy_14 : decode cX7_gotBy 14 = .ok (.iadd, 1) := by decide +kernel
theorem dX7_gotBy_15 : decode cX7_gotBy 15 = .ok (.aload_n 0, 1) := by decide +kernel
theorem dX7_gotBy_16 : decode cX7_gotBy 16 = .ok (.iload_n 1, 1) := by decide +kernel
theorem dX7_gotBy_17 : decode cX7_gotBy 17 = .ok (.iload_n 2, 1) := by decide +kernel
theorem dX7_gotBy_18 : decode cX7_gotBy 18 = .ok (.iconst 2, 1) := by decide +kernel
theorem dX7_gotBy_19 : decode cX7_gotBy 19 = .ok (.invokevirtual 189, 3) := by decide +kernel
theorem dX7_gotBy_22 : decode cX7_gotBy 22 = .ok (.iadd, 1) := by decide +kernel
theorem dX7_gotBy_23 : decode cX7_gotBy 23 = .ok (.ireturn, 1) := by decide +kernel
abbrev rX7_gotBy : Room := { frames := 4, cells := 0, slots := 0, locals := 89 }
theorem cal_X7_gotBy : CalOk yX7_gotBy cX7_gotBy 3 (some .int) 2 := ⟨wm_3_169, wm_1_1, by decide, by decide, by decide +kernel⟩
def f_X7_gotBy (p0 : Nat) (p1 : Int32) (p2 : Int32) (M : Mm) : Option (Int32 × Mm) :=
  ck (gK M p0 = 7) (bd (f_X7_sharePaid p0 p1 p2 (0 : Int32) M) fun v2 M1 =>
  ck (gK M1 p0 = 7) (bd (f_X7_sharePaid p0 p1 p2 (1 : Int32) M1) fun v4 M3 =>
  ck (gK M3 p0 = 7) (bd (f_X7_sharePaid p0 p1 p2 (2 : Int32) M3) fun v6 M5 =>
  some (((v2 + v4) + v6), M5))))
set_option maxRecDepth 20000 in
set_option maxHeartbeats 4000000 in
theorem t_X7_gotBy (p0 : Nat) (p1 : Int32) (p2 : Int32) (M : Mm) (x : Int32) (M' : Mm) (h : f_X7_gotBy p0 p1 p2 M = some (x, M')) : Ctr yX7_gotBy cX7_gotBy 3 (some .int) rX7_gotBy (fun _ => [.ref p0, .int p1, .int p2]) M (zI x) M' := by
  refine ctr_of (plainFor_of_name (by decide)) (fun _ => Nat.le_of_ble_eq_true rfl) (fun z hz hin hq => ?_)
  have key : Sim z 0 [(0, .ref p0), (1, .int p1), (2, .int p2)] [] M 0 0 (f_X7_gotBy p0 p1 p2 M) (fun a b => a = x ∧ b = M') := by
    have hq : Ret z zI (fun a b => a = x ∧ b = M') := fun a b e => by rw [e.1, e.2]; exact hq
    unfold f_X7_gotBy
    refine r_aload_n hz dX7_gotBy_0 0 rfl ?_
    refine r_iload_n hz dX7_gotBy_1 1 rfl ?_
    refine r_iload_n hz dX7_gotBy_2 2 rfl ?_
    refine r_iconst (v := 0) hz dX7_gotBy_3 rfl ?_
    refine r_callVi (As := fun _ => [.int p1, .int p2, .int (0 : Int32)]) cl7 hz (fun _ _ h => t_X7_sharePaid _ _ _ _ _ _ _ h) cal_X7_sharePaid dX7_gotBy_4 wm_3_170 wm_3_172 wm_p_28 rfl rfl (Nat.le_of_ble_eq_true rfl) ⟨(Nat.le_of_ble_eq_true rfl), (Nat.le_of_ble_eq_true rfl)⟩ ⟨(Nat.le_of_ble_eq_true rfl), (Nat.le_of_ble_eq_true rfl)⟩ (fun v2 M1 => ?_)
    refine r_aload_n hz dX7_gotBy_7 0 rfl ?_
    refine r_iload_n hz dX7_gotBy_8 1 rfl ?_
    refine r_iload_n hz dX7_gotBy_9 2 rfl ?_
    refine r_iconst (v := 1) hz dX7_gotBy_10 rfl ?_
    refine r_callVi (As := fun _ => [.int p1, .int p2, .int (1 : Int32)]) cl7 hz (fun _ _ h => t_X7_sharePaid _ _ _ _ _ _ _ h) cal_X7_sharePaid dX7_gotBy_11 wm_3_170 wm_3_172 wm_p_28 rfl rfl (Nat.le_of_ble_eq_true rfl) ⟨(Nat.le_of_ble_eq_true rfl), (Nat.le_of_ble_eq_true rfl)⟩ ⟨(Nat.le_of_ble_eq_true rfl), (Nat.le_of_ble_eq_true rfl)⟩ (fun v4 M3 => ?_)
    refine r_iadd hz dX7_gotBy_14 ?_
    refine r_aload_n hz dX7_gotBy_15 0 rfl ?_
    refine r_iload_n hz dX7_gotBy_16 1 rfl ?_
    refine r_iload_n hz dX7_gotBy_17 2 rfl ?_
    refine r_iconst (v := 2) hz dX7_gotBy_18 rfl ?_
    refine r_callVi (As := fun _ => [.int p1, .int p2, .int (2 : Int32)]) cl7 hz (fun _ _ h => t_X7_sharePaid _ _ _ _ _ _ _ h) cal_X7_sharePaid dX7_gotBy_19 wm_3_170 wm_3_172 wm_p_28 rfl rfl (Nat.le_of_ble_eq_true rfl) ⟨(Nat.le_of_ble_eq_true rfl), (Nat.le_of_ble_eq_true rfl)⟩ ⟨(Nat.le_of_ble_eq_true rfl), (Nat.le_of_ble_eq_true rfl)⟩ (fun v6 M5 => ?_)
    refine r_iadd hz dX7_gotBy_22 ?_
    exact r_iret hz hq dX7_gotBy_23 (Nat.le_of_ble_eq_true rfl) (Nat.le_of_ble_eq_true rfl)
  exact key x M' h ⟨rfl, rfl⟩
theorem dX7_bond_0 : decode cX7_bond 0 = .ok (.aload_n 0, 1) := by decide +kernel
theorem dX7_bond_1 : decode cX7_bond 1 = .ok (.iload_n 1, 1) := by decide +kernel
theorem dX7_bond_2 : decode cX7_bond 2 = .ok (.iload_n 2, 1) := by decide +kernel
theorem dX7_bond_3 : decode cX7_bond 3 = .ok (.invokevirtual 166, 3) := by decide +kernel
theorem dX7_bond_6 : decode cX7_bond 6 = .ok (.ifCond .ne 6, 3) := by decide +kernel
theorem dX7_bond_9 : decode cX7_bond 9 = .ok (.bipush (-2), 2) := by decide +kernel
theorem dX7_bond_11 : decode cX7_bond 11 = .ok (.ireturn, 1) := by decide +kernel
theorem dX7_bond_12 : decode cX7_bond 12 = .ok (.iload_n 1, 1) := by decide +kernel
theorem dX7_bond_13 : decode cX7_bond 13 = .ok (.iload_n 2, 1) := by decide +kernel
theorem dX7_bond_14 : decode cX7_bond 14 = .ok (.invokestatic 170, 3) := by decide +kernel
theorem dX7_bond_17 : decode cX7_bond 17 = .ok (.istore 4, 2) := by decide +kernel
theorem dX7_bond_19 : decode cX7_bond 19 = .ok (.iload_n 3, 1) := by decide +kernel
theorem dX7_bond_20 : decode cX7_bond 20 = .ok (.tableswitch 88 0 4 #[36, 47, 58, 69, 80], 36) := by decide +kernel
theorem dX7_bond_56 : decode cX7_bond 56 = .ok (.aload_n 0, 1) := by decide +kernel
theorem dX7_bond_57 : decode cX7_bond 57 = .ok (.getfield 19, 3) := by decide +kernel
theorem dX7_bond_60 : decode cX7_bond 60 = .ok (.getfield 174, 3) := by decide +kernel
theorem dX7_bond_63 : decode cX7_bond 63 = .ok (.iload 4, 2) := by decide +kernel
theorem dX7_bond_65 : decode cX7_bond 65 = .ok (.iaload, 1) := by decide +kernel
theorem dX7_bond_66 : decode cX7_bond 66 = .ok (.ireturn, 1) := by decide +kernel
theorem dX7_bond_67 : decode cX7_bond 67 = .ok (.aload_n 0, 1) := by decide +kernel
theorem dX7_bond_68 : decode cX7_bond 68 = .ok (.getfield 19, 3) := by decide +kernel
theorem dX7_bond_71 : decode cX7_bond 71 = .ok (.getfield 177, 3) := by decide +kernel
theorem dX7_bond_74 : decode cX7_bond 74 = .ok (.iload 4, 2) := by decide +kernel
theorem dX7_bond_76 : decode cX7_bond 76 = .ok (.iaload, 1) := by decide +kernel
theorem dX7_bond_77 : decode cX7_bond 77 = .ok (.ireturn, 1) := by decide +kernel
theorem dX7_bond_78 : decode cX7_bond 78 = .ok (.aload_n 0, 1) := by decide +kernel
theorem dX7_bond_79 : decode cX7_bond 79 = .ok (.getfield 19, 3) := by decide +kernel
theorem dX7_bond_82 : decode cX7_bond 82 = .ok (.getfield 180, 3) := by decide +kernel
theorem dX7_bond_85 : decode cX7_bond 85 = .ok (.iload 4, 2) := by decide +kernel
theorem dX7_bond_87 : decode cX7_bond 87 = .ok (.iaload, 1) := by decide +kernel
theorem dX7_bond_88 : decode cX7_bond 88 = .ok (.ireturn, 1) := by decide +kernel
theorem dX7_bond_89 : decode cX7_bond 89 = .ok (.aload_n 0, 1) := by decide +kernel
theorem dX7_bond_90 : decode cX7_bond 90 = .ok (.getfield 19, 3) := by decide +kernel
theorem dX7_bond_93 : decode cX7_bond 93 = .ok (.getfield 183, 3) := by decide +kernel
theorem dX7_bond_96 : decode cX7_bond 96 = .ok (.iload 4, 2) := by decide +kernel
theorem dX7_bond_98 : decode cX7_bond 98 = .ok (.iaload, 1) := by decide +kernel
theorem dX7_bond_99 : decode cX7_bond 99 = .ok (.ireturn, 1) := by decide +kernel
theorem dX7_bond_100 : decode cX7_bond 100 = .ok (.aload_n 0, 1) := by decide +kernel
theorem dX7_bond_101 : decode cX7_bond 101 = .ok (.iload_n 1, 1) := by decide +kernel
theorem dX7_bond_102 : decode cX7_bond 102 = .ok (.iload 4, 2) := by decide +kernel
theorem dX7_bond_104 : decode cX7_bond 104 = .ok (.invokevirtual 186, 3) := by decide +kernel
theorem dX7_bond_107 : decode cX7_bond 107 = .ok (.ireturn, 1) := by decide +kernel
theorem dX7_bond_108 : decode cX7_bond 108 = .ok (.bipush (-2), 2) := by decide +kernel
theorem dX7_bond_110 : decode cX7_bond 110 = .ok (.ireturn, 1) := by decide +kernel
abbrev rX7_bond : Room := { frames := 5, cells := 0, slots := 0, locals := 111 }
theorem cal_X7_bond : CalOk yX7_bond cX7_bond 5 (some .int) 3 := ⟨wm_3_160, wm_1_1, by decide, by decide, by decide +kernel⟩
def f_X7_bond (p0 : Nat) (p1 : Int32) (p2 : Int32) (p3 : Int32) (M : Mm) : Option (Int32 × Mm) :=
  ck (gK M p0 = 7) (bd (f_X7_isBond p0 p1 p2 M) fun v2 M1 =>
  (if ¬ v2 = 0 then
    bd (f_X7_spotOf p1 p2 M1) fun v4 M3 =>
    (if p3 = (0 : Int32) then
      ck (gK M3 p0 = 7) (bR (gR M3 p0 1) fun q5 => ck (gK M3 q5 = 5) (bR (gR M3 q5 6) fun q6 => ck (gK M3 q6 = 10 ∧ inb v4 (gN M3 q6)) (some ((gI M3 q6 (v4).toNatClampNeg), M3))))
    else
    (if p3 = (1 : Int32) then
      ck (gK M3 p0 = 7) (bR (gR M3 p0 1) fun q7 => ck (gK M3 q7 = 5) (bR (gR M3 q7 7) fun q8 => ck (gK M3 q8 = 10 ∧ inb v4 (gN M3 q8)) (some ((gI M3 q8 (v4).toNatClampNeg), M3))))
    else
    (if p3 = (2 : Int32) then
      ck (gK M3 p0 = 7) (bR (gR M3 p0 1) fun q9 => ck (gK M3 q9 = 5) (bR (gR M3 q9 8) fun q10 => ck (gK M3 q10 = 10 ∧ inb v4 (gN M3 q10)) (some ((gI M3 q10 (v4).toNatClampNeg), M3))))
    else
    (if p3 = (3 : Int32) then
      ck (gK M3 p0 = 7) (bR (gR M3 p0 1) fun q11 => ck (gK M3 q11 = 5) (bR (gR M3 q11 9) fun q12 => ck (gK M3 q12 = 10 ∧ inb v4 (gN M3 q12)) (some ((gI M3 q12 (v4).toNatClampNeg), M3))))
    else
    (if p3 = (4 : Int32) then
      ck (gK M3 p0 = 7) (bd (f_X7_gotBy p0 p1 v4 M3) fun v14 M13 =>
      some (v14, M13))
    else
      some ((-2 : Int32), M3))))))
  else
    some ((-2 : Int32), M1)))
set_option maxRecDepth 20000 in
set_option maxHeartbeats 4000000 in
theorem t_X7_bond (p0 : Nat) (p1 : Int32) (p2 : Int32) (p3 : Int32) (M : Mm) (x : Int32) (M' : Mm) (h : f_X7_bond p0 p1 p2 p3 M = some (x, M')) : Ctr yX7_bond cX7_bond 5 (some .int) rX7_bond (fun _ => [.ref p0, .int p1, .int p2, .int p3]) M (zI x) M' := by
  refine ctr_of (plainFor_of_name (by decide)) (fun _ => Nat.le_of_ble_eq_true rfl) (fun z hz hin hq => ?_)
  have key : Sim z 0 [(0, .ref p0), (1, .int p1), (2, .int p2), (3, .int p3)] [] M 0 0 (f_X7_bond p0 p1 p2 p3 M) (fun a b => a = x ∧ b = M') := by
    have hq : Ret z zI (fun a b => a = x ∧ b = M') := fun a b e => by rw [e.1, e.2]; exact hq
    unfold f_X7_bond
    refine r_aload_n hz dX7_bond_0 0 rfl ?_
    refine r_iload_n hz dX7_bond_1 1 rfl ?_
    refine r_iload_n hz dX7_bond_2 2 rfl ?_
    refine r_callVi (As := fun _ => [.int p1, .int p2]) cl7 hz (fun _ _ h => t_X7_isBond _ _ _ _ _ _ h) cal_X7_isBond dX7_bond_3 wm_3_161 wm_3_163 wm_p_26 rfl rfl (Nat.le_of_ble_eq_true rfl) ⟨(Nat.le_of_ble_eq_true rfl), (Nat.le_of_ble_eq_true rfl)⟩ ⟨(Nat.le_of_ble_eq_true rfl), (Nat.le_of_ble_eq_true rfl)⟩ (fun v2 M1 => ?_)
    refine r_if_ne (tgt := 12) hz dX7_bond_6 rfl ?_ ?_
    · refine r_iload_n hz dX7_bond_12 1 rfl ?_
      refine r_iload_n hz dX7_bond_13 2 rfl ?_
      refine r_callSi (As := fun _ => [.int p1, .int p2]) hz (fun _ _ h => t_X7_spotOf _ _ _ _ _ h) cal_X7_spotOf dX7_bond_14 wm_3_165 wm_3_78 rfl rfl (Nat.le_of_ble_eq_true rfl) ⟨(Nat.le_of_ble_eq_true rfl), (Nat.le_of_ble_eq_true rfl)⟩ ⟨(Nat.le_of_ble_eq_true rfl), (Nat.le_of_ble_eq_true rfl)⟩ (fun v4 M3 => ?_)
      refine r_istore (lv' := [(4, .int v4), (0, .ref p0), (1, .int p1), (2, .int p2), (3, .int p3)]) hz dX7_bond_17 (by decide) rfl ?_
      refine r_iload_n hz dX7_bond_19 4 rfl ?_
      refine r_swc (v := 0) (tgt := 56) hz dX7_bond_20 (by decide) (by decide) rfl rfl ?_ (fun n0 => ?_)
      · refine r_aload_n hz dX7_bond_56 1 rfl ?_
        refine r_getR (j := 1) cl7 hz dX7_bond_57 (by decide) wm_2_105 rfl (fun q5 => ?_)
        refine r_getR (j := 6) cl5 hz dX7_bond_60 (by decide) wm_1_157 rfl (fun q6 => ?_)
        refine r_iload hz dX7_bond_63 0 rfl ?_
        refine r_iald hz dX7_bond_65 ?_
        exact r_iret hz hq dX7_bond_66 (Nat.le_of_ble_eq_true rfl) (Nat.le_of_ble_eq_true rfl)
      refine r_swc (v := 1) (tgt := 67) hz dX7_bond_20 (by decide) (by decide) rfl rfl ?_ (fun n1 => ?_)
      · refine r_aload_n hz dX7_bond_67 1 rfl ?_
        refine r_getR (j := 1) cl7 hz dX7_bond_68 (by decide) wm_2_105 rfl (fun q7 => ?_)
        refine r_getR (j := 7) cl5 hz dX7_bond_71 (by decide) wm_1_160 rfl (fun q8 => ?_)
        refine r_iload hz dX7_bond_74 0 rfl ?_
        refine r_iald hz dX7_bond_76 ?_
        exact r_iret hz hq dX7_bond_77 (Nat.le_of_ble_eq_true rfl) (Nat.le_of_ble_eq_true rfl)
      refine r_swc (v := 2) (tgt := 78) hz dX7_bond_20 (by decide) (by decide) rfl rfl ?_ (fun n2 => ?_)
      · refine r_aload_n hz dX7_bond_78 1 rfl ?_
        refine r_getR (j := 1) cl7 hz dX7_bond_79 (by decide) wm_2_105 rfl (fun q9 => ?_)
        refine r_getR (j := 8) cl5 hz dX7_bond_82 (by decide) wm_1_164 rfl (fun q10 => ?_)
        refine r_iload hz dX7_bond_85 0 rfl ?_
        refine r_iald hz dX7_bond_87 ?_
        exact r_iret hz hq dX7_bond_88 (Nat.le_of_ble_eq_true rfl) (Nat.le_of_ble_eq_true rfl)
      refine r_swc (v := 3) (tgt := 89) hz dX7_bond_20 (by decide) (by decide) rfl rfl ?_ (fun n3 => ?_)
      · refine r_aload_n hz dX7_bond_89 1 rfl ?_
        refine r_getR (j := 1) cl7 hz dX7_bond_90 (by decide) wm_2_105 rfl (fun q11 => ?_)
        refine r_getR (j := 9) cl5 hz dX7_bond_93 (by decide) wm_1_166 rfl (fun q12 => ?_)
        refine r_iload hz dX7_bond_96 0 rfl ?_
        refine r_iald hz dX7_bond_98 ?_
        exact r_iret hz hq dX7_bond_99 (Nat.le_of_ble_eq_true rfl) (Nat.le_of_ble_eq_true rfl)
      refine r_swc (v := 4) (tgt := 100) hz dX7_bond_20 (by decide) (by decide) rfl rfl ?_ (fun n4 => ?_)
      · refine r_aload_n hz dX7_bond_100 1 rfl ?_
        refine r_iload_n hz dX7_bond_101 2 rfl ?_
        refine r_iload hz dX7_bond_102 0 rfl ?_
        refine r_callVi (As := fun _ => [.int p1, .int v4]) cl7 hz (fun _ _ h => t_X7_gotBy _ _ _ _ _ _ h) cal_X7_gotBy dX7_bond_104 wm_3_166 wm_3_168 wm_p_27 rfl rfl (Nat.le_of_ble_eq_true rfl) ⟨(Nat.le_of_ble_eq_true rfl), (Nat.le_of_ble_eq_true rfl)⟩ ⟨(Nat.le_of_ble_eq_true rfl), (Nat.le_of_ble_eq_true rfl)⟩ (fun v14 M13 => ?_)
        exact r_iret hz hq dX7_bond_107 (Nat.le_of_ble_eq_true rfl) (Nat.le_of_ble_eq_true rfl)
      refine r_swd (tgt := 108) hz dX7_bond_20 (by have n0q := lv_neT n0 (show (0 : Int32).toInt = 0 from rfl); have n1q := lv_neT n1 (show (1 : Int32).toInt = 1 from rfl); have n2q := lv_neT n2 (show (2 : Int32).toInt = 2 from rfl); have n3q := lv_neT n3 (show (3 : Int32).toInt = 3 from rfl); have n4q := lv_neT n4 (show (4 : Int32).toInt = 4 from rfl); omega) rfl ?_
      refine r_bipush (v := -2) hz dX7_bond_108 rfl ?_
      exact r_iret hz hq dX7_bond_110 (Nat.le_of_ble_eq_true rfl) (Nat.le_of_ble_eq_true rfl)
    · refine r_bipush (v := -2) hz dX7_bond_9 rfl ?_
      exact r_iret hz hq dX7_bond_11 (Nat.le_of_ble_eq_true rfl) (Nat.le_of_ble_eq_true rfl)
  exact key x M' h ⟨rfl, rfl⟩
theorem dX7_standing_0 : decode cX7_standing 0 = .ok (.aload_n 0, 1) := by decide +kernel
theorem dX7_standing_1 : decode cX7_standing 1 = .ok (.iload_n 1, 1) := by decide +kernel
theorem dX7_standing_2 : decode cX7_standing 2 = .ok (.iload_n 3, 1) := by decide +kernel
theorem dX7_standing_3 : decode cX7_standing 3 = .ok (.invokevirtual 166, 3) := by decide +kernel
theorem dX7_standing_6 : decode cX7_standing 6 = .ok (.ifCond .eq 16, 3) := by decide +kernel
theorem dX7_standing_9 : decode cX7_standing 9 = .ok (.iload_n 2, 1) := by decide +kernel
theorem dX7_standing_10 : decode cX7_standing 10 = .ok (.iconst (-1), 1) := by decide +kernel
theorem dX7_standing_11 : decode cX7_standing 11 = .ok (.if_icmp .eq 13, 3) := by decide +kernel
theorem dX7_standing_14 : decode cX7_standing 14 = .ok (.aload_n 0, 1) := by decide +kernel
theorem dX7_standing_15 : decode cX7_standing 15 = .ok (.iload_n 2, 1) := by decide +kernel
theorem dX7_standing_16 : decode cX7_standing 16 = .ok (.invokevirtual 156, 3) := by decide +kernel
theorem dX7_standing_19 : decode cX7_standing 19 = .ok (.ifCond .ne 5, 3) := by decide +kernel
theorem dX7_standing_22 : decode cX7_standing 22 = .ok (.iconst (-1), 1) := by decide +kernel
theorem dX7_standing_23 : decode cX7_standing 23 = .ok (.ireturn, 1) := by decide +kernel
theorem dX7_standing_24 : decode cX7_standing 24 = .ok (.iload_n 3, 1) := by decide +kernel
theorem dX7_standing_25 : decode cX7_standing 25 = .ok (.istore 4, 2) := by decide +kernel
theorem dX7_standing_27 : decode cX7_standing 27 = .ok (.iload 4, 2) := by decide +kernel
theorem dX7_standing_29 : decode cX7_standing 29 = .ok (.aload_n 0, 1) := by decide +kernel
theorem dX7_standing_30 : decode cX7_standing 30 = .ok (.getfield 10, 3) := by decide +kernel
theorem dX7_standing_33 : decode cX7_standing 33 = .ok (.getfield 127, 3) := by decide +kernel
theorem dX7_standing_36 : decode cX7_standing 36 = .ok (.iload_n 1, 1) := by decide +kernel
theorem dX7_standing_37 : decode cX7_standing 37 = .ok (.iaload, 1) := by decide +kernel
theorem dX7_standing_38 : decode cX7_standing 38 = .ok (.if_icmp .gt 47, 3) := by decide +kernel
theorem dX7_standing_41 : decode cX7_standing 41 = .ok (.iload_n 1, 1) := by decide +kernel
theorem dX7_standing_42 : decode cX7_standing 42 = .ok (.iload 4, 2) := by decide +kernel
theorem dX7_standing_44 : decode cX7_standing 44 = .ok (.invokestatic 170, 3) := by decide +kernel
theorem dX7_standing_47 : decode cX7_standing 47 = .ok (.istore 5, 2) := by decide +kernel
theorem dX7_standing_49 : decode cX7_standing 49 = .ok (.aload_n 0, 1) := by decide +kernel
theorem dX7_standing_50 : decode cX7_standing 50 = .ok (.getfield 19, 3) := by decide +kernel
theorem dX7_standing_53 : decode cX7_standing 53 = .ok (.getfield 174, 3) := by decide +kernel
theorem dX7_standing_56 : decode cX7_standing 56 = .ok (.iload 5, 2) := by decide +kernel
theorem dX7_standing_58 : decode cX7_standing 58 = .ok (.iaload, 1) := by decide +kernel
theorem dX7_standing_59 : decode cX7_standing 59 = .ok (.ifCond .ne 20, 3) := by decide +kernel
theorem dX7_standing_62 : decode cX7_standing 62 = .ok (.aload_n 0, 1) := by decide +kernel
theorem dX7_standing_63 : decode cX7_standing 63 = .ok (.getfield 19, 3) := by decide +kernel
theorem dX7_standing_66 : decode cX7_standing 66 = .ok (.getfield 177, 3) := by decide +kernel
theorem dX7_standing_69 : decode cX7_standing 69 = .ok (.iload 5, 2) := by decide +kernel
theorem dX7_standing_71 : decode cX7_standing 71 = .ok (.iaload, 1) := by decide +kernel
theorem dX7_standing_72 : decode cX7_standing 72 = .ok (.iload_n 2, 1) := by decide +kernel
theorem dX7_standing_73 : decode cX7_standing 73 = .ok (.if_icmp .ne 6, 3) := by decide +kernel
theorem dX7_standing_76 : decode cX7_standing 76 = .ok (.iload 4, 2) := by decide +kernel
theorem dX7_standing_78 : decode cX7_standing 78 = .ok (.ireturn, 1) := by decide +kernel
theorem dX7_standing_79 : decode cX7_standing 79 = .ok (.iinc 4 1, 3) := by decide +kernel
theorem dX7_standing_82 : decode cX7_standing 82 = .ok (.goto (-55), 3) := by decide +kernel
theorem dX7_standing_85 : decode cX7_standing 85 = .ok (.bipush (-2), 2) := by decide +kernel
theorem dX7_standing_87 : decode cX7_standing 87 = .ok (.ireturn, 1) := by decide +kernel
abbrev rX7_standing : Room := { frames := 2, cells := 0, slots := 0, locals := 43 }
theorem cal_X7_standing : CalOk yX7_standing cX7_standing 6 (some .int) 3 := ⟨wm_3_187, wm_1_1, by decide, by decide, by decide +kernel⟩
def f_X7_standing_27 : Nat → Nat → Int32 → Int32 → Int32 → Mm → Option (Int32 × Mm)
  | 0, _, _, _, _, _ => none
  | n + 1, x0, x1, x2, x4, M =>
    ck (gK M x0 = 7) (bR (gR M x0 0) fun q1 => ck (gK M q1 = 6) (bR (gR M q1 6) fun q2 => ck (gK M q2 = 10 ∧ inb x1 (gN M q2)) ((if (gI M q2 (x1).toNatClampNeg) < x4 then
      some ((-2 : Int32), M)
    else
      bd (f_X7_spotOf x1 x4 M) fun v4 M3 =>
      ck (gK M3 x0 = 7) (bR (gR M3 x0 1) fun q5 => ck (gK M3 q5 = 5) (bR (gR M3 q5 6) fun q6 => ck (gK M3 q6 = 10 ∧ inb v4 (gN M3 q6)) ((if ¬ (gI M3 q6 (v4).toNatClampNeg) = 0 then
        f_X7_standing_27 n x0 x1 x2 (x4 + (1 : Int32)) M3
      else
        ck (gK M3 x0 = 7) (bR (gR M3 x0 1) fun q8 => ck (gK M3 q8 = 5) (bR (gR M3 q8 7) fun q9 => ck (gK M3 q9 = 10 ∧ inb v4 (gN M3 q9)) ((if ¬ (gI M3 q9 (v4).toNatClampNeg) = x2 then
          f_X7_standing_27 n x0 x1 x2 (x4 + (1 : Int32)) M3
        else
          some (x4, M3)))))))))))))
set_option maxRecDepth 20000 in
set_option maxHeartbeats 4000000 in
theorem s_X7_standing_27 {z : Zt} {K : Int32 → Mm → Prop} (hz : Good z RX7 cX7_standing 6 rX7_standing (some .int)) (hq : Ret z zI K) : ∀ (n : Nat) (x0 : Nat) (x1 : Int32) (x2 : Int32) (x4 : Int32) (M : Mm), Sim z 27 [(0, .ref x0), (1, .int x1), (2, .int x2), (4, .int x4)] [] M 0 0 (f_X7_standing_27 n x0 x1 x2 x4 M) K := by
  intro n
  induction n with
  | zero => exact fun _ _ _ _ _ => r_none
  | succ n ih =>
    intro x0 x1 x2 x4 M
    unfold f_X7_standing_27
    refine r_iload hz dX7_standing_27 3 rfl ?_
    refine r_aload_n hz dX7_standing_29 0 rfl ?_
    refine r_getR (j := 0) cl7 hz dX7_standing_30 (by decide) wm_2_104 rfl (fun q1 => ?_)
    refine r_getR (j := 6) cl6 hz dX7_standing_33 (by decide) wm_1_57 rfl (fun q2 => ?_)
    refine r_iload_n hz dX7_standing_36 1 rfl ?_
    refine r_iald hz dX7_standing_37 ?_
    refine r_icmp_gt (tgt := 85) hz dX7_standing_38 rfl ?_ ?_
    · refine r_bipush (v := -2) hz dX7_standing_85 rfl ?_
      exact r_iret hz hq dX7_standing_87 (Nat.le_of_ble_eq_true rfl) (Nat.le_of_ble_eq_true rfl)
    · refine r_iload_n hz dX7_standing_41 1 rfl ?_
      refine r_iload hz dX7_standing_42 3 rfl ?_
      refine r_callSi (As := fun _ => [.int x1, .int x4]) hz (fun _ _ h => t_X7_spotOf _ _ _ _ _ h) cal_X7_spotOf dX7_standing_44 wm_3_165 wm_3_78 rfl rfl (Nat.le_of_ble_eq_true rfl) ⟨(Nat.le_of_ble_eq_true rfl), (Nat.le_of_ble_eq_true rfl)⟩ ⟨(Nat.le_of_ble_eq_true rfl), (Nat.le_of_ble_eq_true rfl)⟩ (fun v4 M3 => ?_)
      refine r_istore (lv' := [(5, .int v4), (0, .ref x0), (1, .int x1), (2, .int x2), (4, .int x4)]) hz dX7_standing_47 (by decide) rfl ?_
      refine r_aload_n hz dX7_standing_49 1 rfl ?_
      refine r_getR (j := 1) cl7 hz dX7_standing_50 (by decide) wm_2_105 rfl (fun q5 => ?_)
      refine r_getR (j := 6) cl5 hz dX7_standing_53 (by decide) wm_1_157 rfl (fun q6 => ?_)
      refine r_iload hz dX7_standing_56 0 rfl ?_
      refine r_iald hz dX7_standing_58 ?_
      refine r_if_ne (tgt := 79) hz dX7_standing_59 rfl ?_ ?_
      · refine r_iinc (v := (x4 + (1 : Int32))) (lv' := [(4, .int (x4 + (1 : Int32))), (5, .int v4), (0, .ref x0), (1, .int x1), (2, .int x2)]) hz dX7_standing_79 4 rfl rfl (by decide) rfl ?_
        refine r_goto (tgt := 27) hz dX7_standing_82 rfl ?_
        refine r_sub [2, 3, 4, 0] rfl ?_
        exact ih x0 x1 x2 (x4 + (1 : Int32)) M3
      · refine r_aload_n hz dX7_standing_62 1 rfl ?_
        refine r_getR (j := 1) cl7 hz dX7_standing_63 (by decide) wm_2_105 rfl (fun q8 => ?_)
        refine r_getR (j := 7) cl5 hz dX7_standing_66 (by decide) wm_1_160 rfl (fun q9 => ?_)
        refine r_iload hz dX7_standing_69 0 rfl ?_
        refine r_iald hz dX7_standing_71 ?_
        refine r_iload_n hz dX7_standing_72 3 rfl ?_
        refine r_icmp_ne (tgt := 79) hz dX7_standing_73 rfl ?_ ?_
        · refine r_iinc (v := (x4 + (1 : Int32))) (lv' := [(4, .int (x4 + (1 : Int32))), (5, .int v4), (0, .ref x0), (1, .int x1), (2, .int x2)]) hz dX7_standing_79 4 rfl rfl (by decide) rfl ?_
          refine r_goto (tgt := 27) hz dX7_standing_82 rfl ?_
          refine r_sub [2, 3, 4, 0] rfl ?_
          exact ih x0 x1 x2 (x4 + (1 : Int32)) M3
        · refine r_iload hz dX7_standing_76 4 rfl ?_
          exact r_iret hz hq dX7_standing_78 (Nat.le_of_ble_eq_true rfl) (Nat.le_of_ble_eq_true rfl)
def f_X7_standing (p0 : Nat) (p1 : Int32) (p2 : Int32) (p3 : Int32) (M : Mm) : Option (Int32 × Mm) :=
  ck (gK M p0 = 7) (bd (f_X7_isBond p0 p1 p3 M) fun v2 M1 =>
  (if v2 = 0 then
    some ((-1 : Int32), M1)
  else
    (if p2 = (-1 : Int32) then
      f_X7_standing_27 FU p0 p1 p2 p3 M1
    else
      ck (gK M1 p0 = 7) (bd (f_X7_isHolder p0 p2 M1) fun v4 M3 =>
      (if ¬ v4 = 0 then
        f_X7_standing_27 FU p0 p1 p2 p3 M3
      else
        some ((-1 : Int32), M3))))))
set_option maxRecDepth 20000 in
set_option maxHeartbeats 4000000 in
theorem t_X7_standing (p0 : Nat) (p1 : Int32) (p2 : Int32) (p3 : Int32) (M : Mm) (x : Int32) (M' : Mm) (h : f_X7_standing p0 p1 p2 p3 M = some (x, M')) : Ctr yX7_standing cX7_standing 6 (some .int) rX7_standing (fun _ => [.ref p0, .int p1, .int p2, .int p3]) M (zI x) M' := by
  refine ctr_of (plainFor_of_name (by decide)) (fun _ => Nat.le_of_ble_eq_true rfl) (fun z hz hin hq => ?_)
  have key : Sim z 0 [(0, .ref p0), (1, .int p1), (2, .int p2), (3, .int p3)] [] M 0 0 (f_X7_standing p0 p1 p2 p3 M) (fun a b => a = x ∧ b = M') := by
    have hq : Ret z zI (fun a b => a = x ∧ b = M') := fun a b e => by rw [e.1, e.2]; exact hq
    unfold f_X7_standing
    refine r_aload_n hz dX7_standing_0 0 rfl ?_
    refine r_iload_n hz dX7_standing_1 1 rfl ?_
    refine r_iload_n hz dX7_standing_2 3 rfl ?_
    refine r_callVi (As := fun _ => [.int p1, .int p3]) cl7 hz (fun _ _ h => t_X7_isBond _ _ _ _ _ _ h) cal_X7_isBond dX7_standing_3 wm_3_161 wm_3_163 wm_p_26 rfl rfl (Nat.le_of_ble_eq_true rfl) ⟨(Nat.le_of_ble_eq_true rfl), (Nat.le_of_ble_eq_true rfl)⟩ ⟨(Nat.le_of_ble_eq_true rfl), (Nat.le_of_ble_eq_true rfl)⟩ (fun v2 M1 => ?_)
    refine r_if_eq (tgt := 22) hz dX7_standing_6 rfl ?_ ?_
    · refine r_iconst (v := -1) hz dX7_standing_22 rfl ?_
      exact r_iret hz hq dX7_standing_23 (Nat.le_of_ble_eq_true rfl) (Nat.le_of_ble_eq_true rfl)
    · refine r_iload_n hz dX7_standing_9 2 rfl ?_
      refine r_iconst (v := -1) hz dX7_standing_10 rfl ?_
      refine r_icmp_eq (tgt := 24) hz dX7_standing_11 rfl ?_ ?_
      · refine r_iload_n hz dX7_standing_24 3 rfl ?_
        refine r_istore (lv' := [(4, .int p3), (0, .ref p0), (1, .int p1), (2, .int p2), (3, .int p3)]) hz dX7_standing_25 (by decide) rfl ?_
        refine r_sub [1, 2, 3, 0] rfl ?_
        exact s_X7_standing_27 hz hq FU p0 p1 p2 p3 M1
      · refine r_aload_n hz dX7_standing_14 0 rfl ?_
        refine r_iload_n hz dX7_standing_15 2 rfl ?_
        refine r_callVi (As := fun _ => [.int p2]) cl7 hz (fun _ _ h => t_X7_isHolder _ _ _ _ _ h) cal_X7_isHolder dX7_standing_16 wm_3_141 wm_3_143 wm_p_24 rfl rfl (Nat.le_of_ble_eq_true rfl) ⟨(Nat.le_of_ble_eq_true rfl), (Nat.le_of_ble_eq_true rfl)⟩ ⟨(Nat.le_of_ble_eq_true rfl), (Nat.le_of_ble_eq_true rfl)⟩ (fun v4 M3 => ?_)
        refine r_if_ne (tgt := 24) hz dX7_standing_19 rfl ?_ ?_
        · refine r_iload_n hz dX7_standing_24 3 rfl ?_
          refine r_istore (lv' := [(4, .int p3), (0, .ref p0), (1, .int p1), (2, .int p2), (3, .int p3)]) hz dX7_standing_25 (by decide) rfl ?_
          refine r_sub [1, 2, 3, 0] rfl ?_
          exact s_X7_standing_27 hz hq FU p0 p1 p2 p3 M3
        · refine r_iconst (v := -1) hz dX7_standing_22 rfl ?_
          exact r_iret hz hq dX7_standing_23 (Nat.le_of_ble_eq_true rfl) (Nat.le_of_ble_eq_true rfl)
  exact key x M' h ⟨rfl, rfl⟩
theorem dX7_price_0 : decode cX7_price 0 = .ok (.aload_n 0, 1) := by decide +kernel
theorem dX7_price_1 : decode cX7_price 1 = .ok (.iload_n 1, 1) := by decide +kernel
theorem dX7_price_2 : decode cX7_price 2 = .ok (.invokevirtual 116, 3) := by decide +kernel
theorem dX7_price_5 : decode cX7_price 5 = .ok (.ifCond .eq 21, 3) := by decide +kernel
theorem dX7_price_8 : decode cX7_price 8 = .ok (.iload_n 2, 1) := by decide +kernel
theorem dX7_price_9 : decode cX7_price 9 = .ok (.iconst 1, 1) := by decide +kernel
theorem dX7_price_10 : decode cX7_price 10 = .ok (.if_icmp .lt 16, 3) := by decide +kernel
theorem dX7_price_13 : decode cX7_price 13 = .ok (.iload_n 2, 1) := by decide +kernel
theorem dX7_price_14 : decode cX7_price 14 = .ok (.aload_n 0, 1) := by decide +kernel
theorem dX7_price_15 : decode cX7_price 15 = .ok (.getfield 10, 3) := by decide +kernel
theorem dX7_price_18 : decode cX7_price 18 = .ok (.getfield 137, 3) := by decide +kernel
theorem dX7_price_21 : decode cX7_price 21 = .ok (.iload_n 1, 1) := by decide +kernel
theorem dX7_price_22 : decode cX7_price 22 = .ok (.iaload, 1) := by decide +kernel
theorem dX7_price_23 : decode cX7_price 23 = .ok (.if_icmp .le 5, 3) := by decide +kernel
theorem dX7_price_26 : decode cX7_price 26 = .ok (.iconst (-1), 1) := by decide +kernel
theorem dX7_price_27 : decode cX7_price 27 = .ok (.ireturn, 1) := by decide +kernel
theorem dX7_price_28 : decode cX7_price 28 = .ok (.aload_n 0, 1) := by decide +kernel
theorem dX7_price_29 : decode cX7_price 29 = .ok (.getfield 19, 3) := by decide +kernel
theorem dX7_price_32 : decode cX7_price 32 = .ok (.getfield 193, 3) := by decide +kernel
theorem dX7_price_35 : decode cX7_price 35 = .ok (.iload_n 1, 1) := by decide +kernel
theorem dX7_price_36 : decode cX7_price 36 = .ok (.iload_n 2, 1) := by decide +kernel
theorem dX7_price_37 : decode cX7_price 37 = .ok (.invokestatic 196, 3) := by decide +kernel
theorem dX7_price_40 : decode cX7_price 40 = .ok (.iaload, 1) := by decide +kernel
theorem dX7_price_41 : decode cX7_price 41 = .ok (.ireturn, 1) := by decide +kernel
abbrev rX7_price : Room := { frames := 1, cells := 0, slots := 0, locals := 21 }
theorem cal_X7_price : CalOk yX7_price cX7_price 3 (some .int) 2 := ⟨wm_3_191, wm_1_1, by decide, by decide, by decide +kernel⟩
def f_X7_price (p0 : Nat) (p1 : Int32) (p2 : Int32) (M : Mm) : Option (Int32 × Mm) :=
  ck (gK M p0 = 7) (bd (f_X7_isLoan p0 p1 M) fun v2 M1 =>
  (if v2 = 0 then
    some ((-1 : Int32), M1)
  else
    (if p2 < (1 : Int32) then
      some ((-1 : Int32), M1)
    else
      ck (gK M1 p0 = 7) (bR (gR M1 p0 0) fun q3 => ck (gK M1 q3 = 6) (bR (gR M1 q3 9) fun q4 => ck (gK M1 q4 = 10 ∧ inb p1 (gN M1 q4)) ((if p2 ≤ (gI M1 q4 (p1).toNatClampNeg) then
        ck (gK M1 p0 = 7) (bR (gR M1 p0 1) fun q5 => ck (gK M1 q5 = 5) (bR (gR M1 q5 4) fun q6 => bd (f_X7_cellOf p1 p2 M1) fun v8 M7 =>
        ck (gK M7 q6 = 10 ∧ inb v8 (gN M7 q6)) (some ((gI M7 q6 (v8).toNatClampNeg), M7))))
      else
        some ((-1 : Int32), M1))))))))
set_option maxRecDepth 20000 in
set_option maxHeartbeats 4000000 in
theorem t_X7_price (p0 : Nat) (p1 : Int32) (p2 : Int32) (M : Mm) (x : Int32) (M' : Mm) (h : f_X7_price p0 p1 p2 M = some (x, M')) : Ctr yX7_price cX7_price 3 (some .int) rX7_price (fun _ => [.ref p0, .int p1, .int p2]) M (zI x) M' := by
  refine ctr_of (plainFor_of_name (by decide)) (fun _ => Nat.le_of_ble_eq_true rfl) (fun z hz hin hq => ?_)
  have key : Sim z 0 [(0, .ref p0), (1, .int p1), (2, .int p2)] [] M 0 0 (f_X7_price p0 p1 p2 M) (fun a b => a = x ∧ b = M') := by
    have hq : Ret z zI (fun a b => a = x ∧ b = M') := fun a b e => by rw [e.1, e.2]; exact hq
    unfold f_X7_price
    refine r_aload_n hz dX7_price_0 0 rfl ?_
    refine r_iload_n hz dX7_price_1 1 rfl ?_
    refine r_callVi (As := fun _ => [.int p1]) cl7 hz (fun _ _ h => t_X7_isLoan _ _ _ _ _ h) cal_X7_isLoan dX7_price_2 wm_3_149 wm_3_151 wm_p_25 rfl rfl (Nat.le_of_ble_eq_true rfl) ⟨(Nat.le_of_ble_eq_true rfl), (Nat.le_of_ble_eq_true rfl)⟩ ⟨(Nat.le_of_ble_eq_true rfl), (Nat.le_of_ble_eq_true rfl)⟩ (fun v2 M1 => ?_)
    refine r_if_eq (tgt := 26) hz dX7_price_5 rfl ?_ ?_
    · refine r_iconst (v := -1) hz dX7_price_26 rfl ?_
      exact r_iret hz hq dX7_price_27 (Nat.le_of_ble_eq_true rfl) (Nat.le_of_ble_eq_true rfl)
    · refine r_iload_n hz dX7_price_8 2 rfl ?_
      refine r_iconst (v := 1) hz dX7_price_9 rfl ?_
      refine r_icmp_lt (tgt := 26) hz dX7_price_10 rfl ?_ ?_
      · refine r_iconst (v := -1) hz dX7_price_26 rfl ?_
        exact r_iret hz hq dX7_price_27 (Nat.le_of_ble_eq_true rfl) (Nat.le_of_ble_eq_true rfl)
      · refine r_iload_n hz dX7_price_13 2 rfl ?_
        refine r_aload_n hz dX7_price_14 0 rfl ?_
        refine r_getR (j := 0) cl7 hz dX7_price_15 (by decide) wm_2_104 rfl (fun q3 => ?_)
        refine r_getR (j := 9) cl6 hz dX7_price_18 (by decide) wm_1_71 rfl (fun q4 => ?_)
        refine r_iload_n hz dX7_price_21 1 rfl ?_
        refine r_iald hz dX7_price_22 ?_
        refine r_icmp_le (tgt := 28) hz dX7_price_23 rfl ?_ ?_
        · refine r_aload_n hz dX7_price_28 0 rfl ?_
          refine r_getR (j := 1) cl7 hz dX7_price_29 (by decide) wm_2_105 rfl (fun q5 => ?_)
          refine r_getR (j := 4) cl5 hz dX7_price_32 (by decide) wm_1_152 rfl (fun q6 => ?_)
          refine r_iload_n hz dX7_price_35 1 rfl ?_
          refine r_iload_n hz dX7_price_36 2 rfl ?_
          refine r_callSi (As := fun _ => [.int p1, .int p2]) hz (fun _ _ h => t_X7_cellOf _ _ _ _ _ h) cal_X7_cellOf dX7_price_37 wm_3_183 wm_3_100 rfl rfl (Nat.le_of_ble_eq_true rfl) ⟨(Nat.le_of_ble_eq_true rfl), (Nat.le_of_ble_eq_true rfl)⟩ ⟨(Nat.le_of_ble_eq_true rfl), (Nat.le_of_ble_eq_true rfl)⟩ (fun v8 M7 => ?_)
          refine r_iald hz dX7_price_40 ?_
          exact r_iret hz hq dX7_price_41 (Nat.le_of_ble_eq_true rfl) (Nat.le_of_ble_eq_true rfl)
        · refine r_iconst (v := -1) hz dX7_price_26 rfl ?_
          exact r_iret hz hq dX7_price_27 (Nat.le_of_ble_eq_true rfl) (Nat.le_of_ble_eq_true rfl)
  exact key x M' h ⟨rfl, rfl⟩
theorem dX7_remember_0 : decode cX7_remember 0 = .ok (.aload_n 0, 1) := by decide +kernel
theorem dX7_remember_1 : decode cX7_remember 1 = .ok (.getfield 27, 3) := by decide +kernel
theorem dX7_remember_4 : decode cX7_remember 4 = .ok (.bipush 12, 2) := by decide +kernel
theorem dX7_remember_6 : decode cX7_remember 6 = .ok (.if_icmp .lt 52, 3) := by decide +kernel
theorem dX7_remember_9 : decode cX7_remember 9 = .ok (.aload_n 0, 1) := by decide +kernel
theorem dX7_remember_10 : decode cX7_remember 10 = .ok (.getfield 23, 3) := by decide +kernel
theorem dX7_remember_13 : decode cX7_remember 13 = .ok (.iconst 0, 1) := by decide +kernel
theorem dX7_remember_14 : decode cX7_remember 14 = .ok (.aaload, 1) := by decide +kernel
theorem dX7_remember_15 : decode cX7_remember 15 = .ok (.astore_n 1, 1) := by decide +kernel
theorem dX7_remember_16 : decode cX7_remember 16 = .ok (.iconst 1, 1) := by decide +kernel
theorem dX7_remember_17 : decode cX7_remember 17 = .ok (.istore_n 2, 1) := by decide +kernel
theorem dX7_remember_18 : decode cX7_remember 18 = .ok (.iload_n 2, 1) := by decide +kernel
theorem dX7_remember_19 : decode cX7_remember 19 = .ok (.bipush 12, 2) := by decide +kernel
theorem dX7_remember_21 : decode cX7_remember 21 = .ok (.if_icmp .ge 23, 3) := by decide +kernel
theorem dX7_remember_24 : decode cX7_remember 24 = .ok (.aload_n 0, 1) := by decide +kernel
theorem dX7_remember_25 : decode cX7_remember 25 = .ok (.getfield 23, 3) := by decide +kernel
theorem dX7_remember_28 : decode cX7_remember 28 = .ok (.iload_n 2, 1) := by decide +kernel
theorem dX7_remember_29 : decode cX7_remember 29 = .ok (.iconst 1, 1) := by decide +kernel
theorem dX7_remember_30 : decode cX7_remember 30 = .ok (.isub, 1) := by decide +kernel
theorem dX7_remember_31 : decode cX7_remember 31 = .ok (.aload_n 0, 1) := by decide +kernel
theorem dX7_remember_32 : decode cX7_remember 32 = .ok (.getfield 23, 3) := by decide +kernel
theorem dX7_remember_35 : decode cX7_remember 35 = .ok (.iload_n 2, 1) := by decide +kernel
theorem dX7_remember_36 : decode cX7_remember 36 = .ok (.aaload, 1) := by decide +kernel
theorem dX7_remember_37 : decode cX7_remember 37 = .ok (.aastore, 1) := by decide +kernel
theorem dX7_remember_38 : decode cX7_remember 38 = .ok (.iinc 2 1, 3) := by decide +kernel
theorem dX7_remember_41 : decode cX7_remember 41 = .ok (.goto (-23), 3) := by decide +kernel
theorem dX7_remember_44 : decode cX7_remember 44 = .ok (.aload_n 0, 1) := by decide +kernel
theorem dX7_remember_45 : decode cX7_remember 45 = .ok (.getfield 23, 3) := by decide +kernel
theorem dX7_remember_48 : decode cX7_remember 48 = .ok (.bipush 11, 2) := by decide +kernel
theorem dX7_remember_50 : decode cX7_remember 50 = .ok (.aload_n 1, 1) := by decide +kernel
theorem dX7_remember_51 : decode cX7_remember 51 = .ok (.aastore, 1) := by decide +kernel
theorem dX7_remember_52 : decode cX7_remember 52 = .ok (.aload_n 0, 1) := by decide +kernel
theorem dX7_remember_53 : decode cX7_remember 53 = .ok (.bipush 11, 2) := by decide +kernel
theorem dX7_remember_55 : decode cX7_remember 55 = .ok (.putfield 27, 3) := by decide +kernel
theorem dX7_remember_58 : decode cX7_remember 58 = .ok (.aload_n 0, 1) := by decide +kernel
theorem dX7_remember_59 : decode cX7_remember 59 = .ok (.getfield 23, 3) := by decide +kernel
theorem dX7_remember_62 : decode cX7_remember 62 = .ok (.aload_n 0, 1) := by decide +kernel
theorem dX7_remember_63 : decode cX7_remember 63 = .ok (.getfield 27, 3) := by decide +kernel
theorem dX7_remember_66 : decode cX7_remember 66 = .ok (.aaload, 1) := by decide +kernel
theorem dX7_remember_67 : decode cX7_remember 67 = .ok (.astore_n 1, 1) := by decide +kernel
theorem dX7_remember_68 : decode cX7_remember 68 = .ok (.aload_n 1, 1) := by decide +kernel
theorem dX7_remember_69 : decode cX7_remember 69 = .ok (.ifnonnull 21, 3) := by decide +kernel
theorem dX7_remember_72 : decode cX7_remember 72 = .ok (.new 16, 3) := by decide +kernel
theorem dX7_remember_75 : decode cX7_remember 75 = .ok (.dup, 1) := by decide +kernel
theorem dX7_remember_76 : decode cX7_remember 76 = .ok (.invokespecial 18, 3) := by decide +kernel
theorem dX7_remember_79 : decode cX7_remember 79 = .ok (.astore_n 1, 1) := by decide +kernel
theorem dX7_remember_80 : decode cX7_remember 80 = .ok (.aload_n 0, 1) := by decide +kernel
theorem dX7_remember_81 : decode cX7_remember 81 = .ok (.getfield 23, 3) := by decide +kernel
theorem dX7_remember_84 : decode cX7_remember 84 = .ok (.aload_n 0, 1) := by decide +kernel
theorem dX7_remember_85 : decode cX7_remember 85 = .ok (.getfield 27, 3) := by decide +kernel
theorem dX7_remember_88 : decode cX7_remember 88 = .ok (.aload_n 1, 1) := by decide +kernel
theorem dX7_remember_89 : decode cX7_remember 89 = .ok (.aastore, 1) := by decide +kernel
theorem dX7_remember_90 : decode cX7_remember 90 = .ok (.aload_n 1, 1) := by decide +kernel
theorem dX7_remember_91 : decode cX7_remember 91 = .ok (.aload_n 0, 1) := by decide +kernel
theorem dX7_remember_92 : decode cX7_remember 92 = .ok (.getfield 19, 3) := by decide +kernel
theorem dX7_remember_95 : decode cX7_remember 95 = .ok (.invokevirtual 257, 3) := by decide +kernel
theorem dX7_remember_98 : decode cX7_remember 98 = .ok (.aload_n 0, 1) := by decide +kernel
theorem dX7_remember_99 : decode cX7_remember 99 = .ok (.dup, 1) := by decide +kernel
theorem dX7_remember_100 : decode cX7_remember 100 = .ok (.getfield 27, 3) := by decide +kernel
theorem dX7_remember_103 : decode cX7_remember 103 = .ok (.iconst 1, 1) := by decide +kernel
theorem dX7_remember_104 : decode cX7_remember 104 = .ok (.iadd, 1) := by decide +kernel
theorem dX7_remember_105 : decode cX7_remember 105 = .ok (.putfield 27, 3) := by decide +kernel
theorem dX7_remember_108 : decode cX7_remember 108 = .ok (.return_, 1) := by decide +kernel
abbrev rX7_remember : Room := { frames := 2, cells := 10, slots := 1152, locals := 61 }
theorem cal_X7_remember : CalOk yX7_remember cX7_remember 3 none 0 := ⟨wm_3_199, wm_1_1, by decide, by decide, by decide +kernel⟩
def f_X7_remember_58 (x0 : Nat) (M : Mm) : Option (Unit × Mm) :=
  ck (gK M x0 = 7) (bR (gR M x0 2) fun q1 => ck (gK M x0 = 7) (ck (gK M q1 = 12 ∧ inb (gI M x0 3) (gN M q1)) (nm (gR M q1 ((gI M x0 3)).toNatClampNeg) fun o2 =>
  (o2.elim
    (nm (gT M) fun q7 => nm (sN M 5 10) fun M8 =>
    bd (f_X5_init q7 M8) fun _ M9 =>
    ck (gK M9 x0 = 7) (bR (gR M9 x0 2) fun q10 => ck (gK M9 x0 = 7) (ck (gK M9 q10 = 12 ∧ inb (gI M9 x0 3) (gN M9 q10) ∧ gK M9 q7 = 5) (nm (sR M9 q10 ((gI M9 x0 3)).toNatClampNeg (some q7)) fun M11 =>
    ck (gK M11 x0 = 7) (bR (gR M11 x0 1) fun q12 => ck (gK M11 q7 = 5) (bd (f_X5_become q7 q12 M11) fun _ M13 =>
    ck (gK M13 x0 = 7) (ck (gK M13 x0 = 7) (nm (sI M13 x0 3 ((gI M13 x0 3) + (1 : Int32))) fun M14 =>
    some ((), M14)))))))))
    (fun q3 =>
    ck (gK M x0 = 7) (bR (gR M x0 1) fun q4 => ck (gK M q3 = 5) (bd (f_X5_become q3 q4 M) fun _ M5 =>
    ck (gK M5 x0 = 7) (ck (gK M5 x0 = 7) (nm (sI M5 x0 3 ((gI M5 x0 3) + (1 : Int32))) fun M6 =>
    some ((), M6))))))))))
set_option maxRecDepth 20000 in
set_option maxHeartbeats 4000000 in
theorem s_X7_remember_58 {z : Zt} {K : Unit → Mm → Prop} (hz : Good z RX7 cX7_remember 3 rX7_remember none) (hq : Ret z zU K) : ∀ (x0 : Nat) (M : Mm), Sim z 58 [(0, .ref x0)] [] M 0 0 (f_X7_remember_58 x0 M) K := by
  intro x0 M
  unfold f_X7_remember_58
  refine r_aload_n hz dX7_remember_58 0 rfl ?_
  refine r_getR (j := 2) cl7 hz dX7_remember_59 (by decide) wm_2_106 rfl (fun q1 => ?_)
  refine r_aload_n hz dX7_remember_62 0 rfl ?_
  refine r_getI (j := 3) cl7 hz dX7_remember_63 (by decide) wm_2_107 rfl ?_
  refine r_aald (f := fun t => nm t _) hz dX7_remember_66 (fun o20 => ?_)
  refine r_nmq (fun o2 => ?_)
  refine r_astore_nq (lv' := [(1, va_rf o2), (0, .ref x0)]) hz dX7_remember_67 (by decide) rfl ?_
  refine r_aload_nq hz dX7_remember_68 0 rfl ?_
  refine r_nn (tgt := 90) hz dX7_remember_69 rfl (fun q3 e15 => ?_) (fun e15 => ?_)
  · subst e15
    refine r_aload_n hz dX7_remember_90 0 rfl ?_
    refine r_aload_n hz dX7_remember_91 1 rfl ?_
    refine r_getR (j := 1) cl7 hz dX7_remember_92 (by decide) wm_2_105 rfl (fun q4 => ?_)
    refine r_callVv (As := fun _ => [.ref q4]) cl5 hz (fun _ _ h => t_X5_become _ _ _ _ _ h) cal_X5_become dX7_remember_95 wm_3_200 wm_3_201 wm_3_202 rfl rfl (Nat.le_of_ble_eq_true rfl) ⟨(Nat.le_of_ble_eq_true rfl), (Nat.le_of_ble_eq_true rfl)⟩ ⟨(Nat.le_of_ble_eq_true rfl), (Nat.le_of_ble_eq_true rfl)⟩ (fun _ M5 => ?_)
    refine r_aload_n hz dX7_remember_98 1 rfl ?_
    refine r_dup hz dX7_remember_99 rfl ?_
    refine r_getI (j := 3) cl7 hz dX7_remember_100 (by decide) wm_2_107 rfl ?_
    refine r_iconst (v := 1) hz dX7_remember_103 rfl ?_
    refine r_iadd hz dX7_remember_104 ?_
    refine r_putI (j := 3) cl7 hz dX7_remember_105 (by decide) wm_2_107 (Or.inl rfl) rfl rfl rfl ?_
    refine r_nmM (fun M6 => ?_)
    exact r_vret hz hq dX7_remember_108 (Nat.le_of_ble_eq_true rfl) (Nat.le_of_ble_eq_true rfl)
  · subst e15
    refine r_new cl5 hz dX7_remember_72 wm_1_134 wm_1_135 wm_1_3 (Nat.le_of_ble_eq_true rfl) (Nat.le_of_ble_eq_true rfl) ?_
    refine r_nma (fun q7 => ?_)
    refine r_nmM (fun M8 => ?_)
    refine r_dup hz dX7_remember_75 rfl ?_
    refine r_callIN (As := fun _ => []) (host := "DrawnBonds") hz (fun _ _ h => t_X5_init _ _ _ _ h) cal_X5_init rfl dX7_remember_76 (List.mem_of_getElem? (i := 1) rfl) wm_1_137 rfl rfl (Nat.le_of_ble_eq_true rfl) ⟨(Nat.le_of_ble_eq_true rfl), (Nat.le_of_ble_eq_true rfl)⟩ ⟨(Nat.le_of_ble_eq_true rfl), (Nat.le_of_ble_eq_true rfl)⟩ (fun _ M9 => ?_)
    refine r_astore_n (lv' := [(1, .ref q7), (0, .ref x0)]) hz dX7_remember_79 (by decide) (by first | rfl | (simp [va_rf_cat]; done) | (simp [Value.category]; done)) ?_
    refine r_aload_n hz dX7_remember_80 1 rfl ?_
    refine r_getR (j := 2) cl7 hz dX7_remember_81 (by decide) wm_2_106 rfl (fun q10 => ?_)
    refine r_aload_n hz dX7_remember_84 1 rfl ?_
    refine r_getI (j := 3) cl7 hz dX7_remember_85 (by decide) wm_2_107 rfl ?_
    refine r_aload_n hz dX7_remember_88 0 rfl ?_
    refine r_aast hz dX7_remember_89 ?_
    refine r_nmM (fun M11 => ?_)
    refine r_aload_n hz dX7_remember_90 0 rfl ?_
    refine r_aload_n hz dX7_remember_91 1 rfl ?_
    refine r_getR (j := 1) cl7 hz dX7_remember_92 (by decide) wm_2_105 rfl (fun q12 => ?_)
    refine r_callVv (As := fun _ => [.ref q12]) cl5 hz (fun _ _ h => t_X5_become _ _ _ _ _ h) cal_X5_become dX7_remember_95 wm_3_200 wm_3_201 wm_3_202 rfl rfl (Nat.le_of_ble_eq_true rfl) ⟨(Nat.le_of_ble_eq_true rfl), (Nat.le_of_ble_eq_true rfl)⟩ ⟨(Nat.le_of_ble_eq_true rfl), (Nat.le_of_ble_eq_true rfl)⟩ (fun _ M13 => ?_)
    refine r_aload_n hz dX7_remember_98 1 rfl ?_
    refine r_dup hz dX7_remember_99 rfl ?_
    refine r_getI (j := 3) cl7 hz dX7_remember_100 (by decide) wm_2_107 rfl ?_
    refine r_iconst (v := 1) hz dX7_remember_103 rfl ?_
    refine r_iadd hz dX7_remember_104 ?_
    refine r_putI (j := 3) cl7 hz dX7_remember_105 (by decide) wm_2_107 (Or.inl rfl) rfl rfl rfl ?_
    refine r_nmM (fun M14 => ?_)
    exact r_vret hz hq dX7_remember_108 (Nat.le_of_ble_eq_true rfl) (Nat.le_of_ble_eq_true rfl)
def f_X7_remember_18 : Nat → Nat → Option Nat → Int32 → Mm → Option (Unit × Mm)
  | 0, _, _, _, _ => none
  | n + 1, x0, x1, x2, M =>
    (if (12 : Int32) ≤ x2 then
      ck (gK M x0 = 7) (bR (gR M x0 2) fun q1 => ck (gK M q1 = 12 ∧ inb (11 : Int32) (gN M q1) ∧ (x1).all (fun v => decide (gK M v = 5)) = true) (nm (sR M q1 ((11 : Int32)).toNatClampNeg x1) fun M2 =>
      ck (gK M2 x0 = 7) (nm (sI M2 x0 3 (11 : Int32)) fun M3 =>
      f_X7_remember_58 x0 M3)))
    else
      ck (gK M x0 = 7) (bR (gR M x0 2) fun q4 => ck (gK M x0 = 7) (bR (gR M x0 2) fun q5 => ck (gK M q5 = 12 ∧ inb x2 (gN M q5)) (nm (gR M q5 (x2).toNatClampNeg) fun o6 =>
      ck (gK M q4 = 12 ∧ inb (x2 - (1 : Int32)) (gN M q4) ∧ (o6).all (fun v => decide (gK M v = 5)) = true) (nm (sR M q4 ((x2 - (1 : Int32))).toNatClampNeg o6) fun M7 =>
      f_X7_remember_18 n x0 x1 (x2 + (1 : Int32)) M7)))))
set_option maxRecDepth 20000 in
set_option maxHeartbeats 4000000 in
theorem s_X7_remember_18 {z : Zt} {K : Unit → Mm → Prop} (hz : Good z RX7 cX7_remember 3 rX7_remember none) (hq : Ret z zU K) : ∀ (n : Nat) (x0 : Nat) (x1 : Option Nat) (x2 : Int32) (M : Mm), Sim z 18 [(0, .ref x0), (1, va_rf x1), (2, .int x2)] [] M 0 0 (f_X7_remember_18 n x0 x1 x2 M) K := by
  intro n
  induction n with
  | zero => exact fun _ _ _ _ => r_none
  | succ n ih =>
    intro x0 x1 x2 M
    unfold f_X7_remember_18
    refine r_iload_n hz dX7_remember_18 2 rfl ?_
    refine r_bipush (v := 12) hz dX7_remember_19 rfl ?_
    refine r_icmp_ge (tgt := 44) hz dX7_remember_21 rfl ?_ ?_
    · refine r_aload_n hz dX7_remember_44 0 rfl ?_
      refine r_getR (j := 2) cl7 hz dX7_remember_45 (by decide) wm_2_106 rfl (fun q1 => ?_)
      refine r_bipush (v := 11) hz dX7_remember_48 rfl ?_
      refine r_aload_nq hz dX7_remember_50 1 rfl ?_
      refine r_aastq hz dX7_remember_51 ?_
      refine r_nmM (fun M2 => ?_)
      refine r_aload_n hz dX7_remember_52 0 rfl ?_
      refine r_bipush (v := 11) hz dX7_remember_53 rfl ?_
      refine r_putI (j := 3) cl7 hz dX7_remember_55 (by decide) wm_2_107 (Or.inl rfl) rfl rfl rfl ?_
      refine r_nmM (fun M3 => ?_)
      refine r_sub [0] rfl ?_
      exact s_X7_remember_58 hz hq x0 M3
    · refine r_aload_n hz dX7_remember_24 0 rfl ?_
      refine r_getR (j := 2) cl7 hz dX7_remember_25 (by decide) wm_2_106 rfl (fun q4 => ?_)
      refine r_iload_n hz dX7_remember_28 2 rfl ?_
      refine r_iconst (v := 1) hz dX7_remember_29 rfl ?_
      refine r_isub hz dX7_remember_30 ?_
      refine r_aload_n hz dX7_remember_31 0 rfl ?_
      refine r_getR (j := 2) cl7 hz dX7_remember_32 (by decide) wm_2_106 rfl (fun q5 => ?_)
      refine r_iload_n hz dX7_remember_35 2 rfl ?_
      refine r_aald (f := fun t => nm t _) hz dX7_remember_36 (fun o60 => ?_)
      refine r_nmq (fun o6 => ?_)
      refine r_aastq hz dX7_remember_37 ?_
      refine r_nmM (fun M7 => ?_)
      refine r_iinc (v := (x2 + (1 : Int32))) (lv' := [(2, .int (x2 + (1 : Int32))), (0, .ref x0), (1, va_rf x1)]) hz dX7_remember_38 2 rfl rfl (by decide) (by first | rfl | (simp [va_rf_cat]; done) | (simp [Value.category]; done)) ?_
      refine r_goto (tgt := 18) hz dX7_remember_41 rfl ?_
      refine r_sub [1, 2, 0] rfl ?_
      exact ih x0 x1 (x2 + (1 : Int32)) M7
def f_X7_remember (p0 : Nat) (M : Mm) : Option (Unit × Mm) :=
  ck (gK M p0 = 7) ((if (gI M p0 3) < (12 : Int32) then
    f_X7_remember_58 p0 M
  else
    ck (gK M p0 = 7) (bR (gR M p0 2) fun q1 => ck (gK M q1 = 12 ∧ inb (0 : Int32) (gN M q1)) (nm (gR M q1 ((0 : Int32)).toNatClampNeg) fun o2 =>
    f_X7_remember_18 FU p0 o2 (1 : Int32) M))))
set_option maxRecDepth 20000 in
set_option maxHeartbeats 4000000 in
theorem t_X7_remember (p0 : Nat) (M : Mm) (x : Unit) (M' : Mm) (h : f_X7_remember p0 M = some (x, M')) : Ctr yX7_remember cX7_remember 3 none rX7_remember (fun _ => [.ref p0]) M (zU x) M' := by
  refine ctr_of (plainFor_of_name (by decide)) (fun _ => Nat.le_of_ble_eq_true rfl) (fun z hz hin hq => ?_)
  have key : Sim z 0 [(0, .ref p0)] [] M 0 0 (f_X7_remember p0 M) (fun a b => a = x ∧ b = M') := by
    have hq : Ret z zU (fun a b => a = x ∧ b = M') := fun a b e => by rw [e.1, e.2]; exact hq
    unfold f_X7_remember
    refine r_aload_n hz dX7_remember_0 0 rfl ?_
    refine r_getI (j := 3) cl7 hz dX7_remember_1 (by decide) wm_2_107 rfl ?_
    refine r_bipush (v := 12) hz dX7_remember_4 rfl ?_
    refine r_icmp_lt (tgt := 58) hz dX7_remember_6 rfl ?_ ?_
    · exact s_X7_remember_58 hz hq p0 M
    · refine r_aload_n hz dX7_remember_9 0 rfl ?_
      refine r_getR (j := 2) cl7 hz dX7_remember_10 (by decide) wm_2_106 rfl (fun q1 => ?_)
      refine r_iconst (v := 0) hz dX7_remember_13 rfl ?_
      refine r_aald (f := fun t => nm t _) hz dX7_remember_14 (fun o20 => ?_)
      refine r_nmq (fun o2 => ?_)
      refine r_astore_nq (lv' := [(1, va_rf o2), (0, .ref p0)]) hz dX7_remember_15 (by decide) rfl ?_
      refine r_iconst (v := 1) hz dX7_remember_16 rfl ?_
      refine r_istore_n (lv' := [(2, .int (1 : Int32)), (1, va_rf o2), (0, .ref p0)]) hz dX7_remember_17 (by decide) (by first | rfl | (simp [va_rf_cat]; done) | (simp [Value.category]; done)) ?_
      refine r_sub [2, 1, 0] rfl ?_
      exact s_X7_remember_18 hz hq FU p0 o2 (1 : Int32) M
  exact key x M' h ⟨rfl, rfl⟩
theorem dX7_payInterest_0 : decode cX7_payInterest 0 = .ok (.iconst 1, 1) := by decide +kernel
theorem dX7_payInterest_1 : decode cX7_payInterest 1 = .ok (.istore_n 2, 1) := by decide +kernel
theorem dX7_payInterest_2 : decode cX7_payInterest 2 = .ok (.iload_n 2, 1) := by decide +kernel
theorem dX7_payInterest_3 : decode cX7_payInterest 3 = .ok (.aload_n 0, 1) := by decide +kernel
theorem dX7_payInterest_4 : decode cX7_payInterest 4 = .ok (.getfield 10, 3) := by decide +kernel
theorem dX7_payInterest_7 : decode cX7_payInterest 7 = .ok (.getfield 127, 3) := by decide +kernel
theorem dX7_payInterest_10 : decode cX7_payInterest 10 = .ok (.iload_n 1, 1) := by decide +kernel
theorem dX7_payInterest_11 : decode cX7_payInterest 11 = .ok (.iaload, 1) := by decide +kernel
theorem dX7_payInterest_12 : decode cX7_payInterest 12 = .ok (.if_icmp .gt 52, 3) := by decide +kernel
theorem dX7_payInterest_15 : decode cX7_payInterest 15 = .ok (.iload_n 1, 1) := by decide +kernel
theorem dX7_payInterest_16 : decode cX7_payInterest 16 = .ok (.iload_n 2, 1) := by decide +kernel
theorem dX7_payInterest_17 : decode cX7_payInterest 17 = .ok (.invokestatic 170, 3) := by decide +kernel
theorem dX7_payInterest_20 : decode cX7_payInterest 20 = .ok (.istore_n 3, 1) := by decide +kernel
theorem dX7_payInterest_21 : decode cX7_payInterest 21 = .ok (.aload_n 0, 1) := by decide +kernel
theorem dX7_payInterest_22 : decode cX7_payInterest 22 = .ok (.getfield 19, 3) := by decide +kernel
theorem dX7_payInterest_25 : decode cX7_payInterest 25 = .ok (.getfield 174, 3) := by decide +kernel
theorem dX7_payInterest_28 : decode cX7_payInterest 28 = .ok (.iload_n 3, 1) := by decide +kernel
theorem dX7_payInterest_29 : decode cX7_payInterest 29 = .ok (.iaload, 1) := by decide +kernel
theorem dX7_payInterest_30 : decode cX7_payInterest 30 = .ok (.ifCond .ne 28, 3) := by decide +kernel
theorem dX7_payInterest_33 : decode cX7_payInterest 33 = .ok (.aload_n 0, 1) := by decide +kernel
theorem dX7_payInterest_34 : decode cX7_payInterest 34 = .ok (.getfield 19, 3) := by decide +kernel
theorem dX7_payInterest_37 : decode cX7_payInterest 37 = .ok (.aload_n 0, 1) := by decide +kernel
theorem dX7_payInterest_38 : decode cX7_payInterest 38 = .ok (.getfield 19, 3) := by decide +kernel
theorem dX7_payInterest_41 : decode cX7_payInterest 41 = .ok (.getfield 177, 3) := by decide +kernel
theorem dX7_payInterest_44 : decode cX7_payInterest 44 = .ok (.iload_n 3, 1) := by decide +kernel
theorem dX7_payInterest_45 : decode cX7_payInterest 45 = .ok (.iaload, 1) := by decide +kernel
theorem dX7_payInterest_46 : decode cX7_payInterest 46 = .ok (.aload_n 0, 1) := by decide +kernel
theorem dX7_payInterest_47 : decode cX7_payInterest 47 = .ok (.getfield 10, 3) := by decide +kernel
theorem dX7_payInterest_50 : decode cX7_payInterest 50 = .ok (.getfield 134, 3) := by decide +kernel
theorem dX7_payInterest_53 : decode cX7_payInterest 53 = .ok (.iload_n 1, 1) := by decide +kernel
theorem dX7_payInterest_54 : decode cX7_payInterest 54 = .ok (.iaload, 1) := by decide +kernel
theorem dX7_payInterest_55 : decode cX7_payInterest 55 = .ok (.invokevirtual 238, 3) := by decide +kernel
theorem dX7_payInterest_58 : decode cX7_payInterest 58 = .ok (.iinc 2 1, 3) := by decide +kernel
theorem dX7_payInterest_61 : decode cX7_payInterest 61 = .ok (.goto (-59), 3) := by decide +kernel
theorem dX7_payInterest_64 : decode cX7_payInterest 64 = .ok (.return_, 1) := by decide +kernel
abbrev rX7_payInterest : Room := { frames := 2, cells := 0, slots := 0, locals := 43 }
theorem cal_X7_payInterest : CalOk yX7_payInterest cX7_payInterest 4 none 1 := ⟨wm_3_239, wm_1_1, by decide, by decide, by decide +kernel⟩
def f_X7_payInterest_2 : Nat → Nat → Int32 → Int32 → Mm → Option (Unit × Mm)
  | 0, _, _, _, _ => none
  | n + 1, x0, x1, x2, M =>
    ck (gK M x0 = 7) (bR (gR M x0 0) fun q1 => ck (gK M q1 = 6) (bR (gR M q1 6) fun q2 => ck (gK M q2 = 10 ∧ inb x1 (gN M q2)) ((if (gI M q2 (x1).toNatClampNeg) < x2 then
      some ((), M)
    else
      bd (f_X7_spotOf x1 x2 M) fun v4 M3 =>
      ck (gK M3 x0 = 7) (bR (gR M3 x0 1) fun q5 => ck (gK M3 q5 = 5) (bR (gR M3 q5 6) fun q6 => ck (gK M3 q6 = 10 ∧ inb v4 (gN M3 q6)) ((if ¬ (gI M3 q6 (v4).toNatClampNeg) = 0 then
        f_X7_payInterest_2 n x0 x1 (x2 + (1 : Int32)) M3
      else
        ck (gK M3 x0 = 7) (bR (gR M3 x0 1) fun q8 => ck (gK M3 x0 = 7) (bR (gR M3 x0 1) fun q9 => ck (gK M3 q9 = 5) (bR (gR M3 q9 7) fun q10 => ck (gK M3 q10 = 10 ∧ inb v4 (gN M3 q10)) (ck (gK M3 x0 = 7) (bR (gR M3 x0 0) fun q11 => ck (gK M3 q11 = 6) (bR (gR M3 q11 8) fun q12 => ck (gK M3 q12 = 10 ∧ inb x1 (gN M3 q12)) (ck (gK M3 q8 = 5) (bd (f_X5_pay q8 (gI M3 q10 (v4).toNatClampNeg) (gI M3 q12 (x1).toNatClampNeg) M3) fun _ M13 =>
        f_X7_payInterest_2 n x0 x1 (x2 + (1 : Int32)) M13))))))))))))))))
set_option maxRecDepth 20000 in
set_option maxHeartbeats 4000000 in
theorem s_X7_payInterest_2 {z : Zt} {K : Unit → Mm → Prop} (hz : Good z RX7 cX7_payInterest 4 rX7_payInterest none) (hq : Ret z zU K) : ∀ (n : Nat) (x0 : Nat) (x1 : Int32) (x2 : Int32) (M : Mm), Sim z 2 [(0, .ref x0), (1, .int x1), (2, .int x2)] [] M 0 0 (f_X7_payInterest_2 n x0 x1 x2 M) K := by
  intro n
  induction n with
  | zero => exact fun _ _ _ _ => r_none
  | succ n ih =>
    intro x0 x1 x2 M
    unfold f_X7_payInterest_2
    refine r_iload_n hz dX7_payInterest_2 2 rfl ?_
    refine r_aload_n hz dX7_payInterest_3 0 rfl ?_
    refine r_getR (j := 0) cl7 hz dX7_payInterest_4 (by decide) wm_2_104 rfl (fun q1 => ?_)
    refine r_getR (j := 6) cl6 hz dX7_payInterest_7 (by decide) wm_1_57 rfl (fun q2 => ?_)
    refine r_iload_n hz dX7_payInterest_10 1 rfl ?_
    refine r_iald hz dX7_payInterest_11 ?_
    refine r_icmp_gt (tgt := 64) hz dX7_payInterest_12 rfl ?_ ?_
    · exact r_vret hz hq dX7_payInterest_64 (Nat.le_of_ble_eq_true rfl) (Nat.le_of_ble_eq_true rfl)
    · refine r_iload_n hz dX7_payInterest_15 1 rfl ?_
      refine r_iload_n hz dX7_payInterest_16 2 rfl ?_
      refine r_callSi (As := fun _ => [.int x1, .int x2]) hz (fun _ _ h => t_X7_spotOf _ _ _ _ _ h) cal_X7_spotOf dX7_payInterest_17 wm_3_165 wm_3_78 rfl rfl (Nat.le_of_ble_eq_true rfl) ⟨(Nat.le_of_ble_eq_true rfl), (Nat.le_of_ble_eq_true rfl)⟩ ⟨(Nat.le_of_ble_eq_true rfl), (Nat.le_of_ble_eq_true rfl)⟩ (fun v4 M3 => ?_)
      refine r_istore_n (lv' := [(3, .int v4), (0, .ref x0), (1, .int x1), (2, .int x2)]) hz dX7_payInterest_20 (by decide) rfl ?_
      refine r_aload_n hz dX7_payInterest_21 1 rfl ?_
      refine r_getR (j := 1) cl7 hz dX7_payInterest_22 (by decide) wm_2_105 rfl (fun q5 => ?_)
      refine r_getR (j := 6) cl5 hz dX7_payInterest_25 (by decide) wm_1_157 rfl (fun q6 => ?_)
      refine r_iload_n hz dX7_payInterest_28 0 rfl ?_
      refine r_iald hz dX7_payInterest_29 ?_
      refine r_if_ne (tgt := 58) hz dX7_payInterest_30 rfl ?_ ?_
      · refine r_iinc (v := (x2 + (1 : Int32))) (lv' := [(2, .int (x2 + (1 : Int32))), (3, .int v4), (0, .ref x0), (1, .int x1)]) hz dX7_payInterest_58 3 rfl rfl (by decide) rfl ?_
        refine r_goto (tgt := 2) hz dX7_payInterest_61 rfl ?_
        refine r_sub [2, 3, 0] rfl ?_
        exact ih x0 x1 (x2 + (1 : Int32)) M3
      · refine r_aload_n hz dX7_payInterest_33 1 rfl ?_
        refine r_getR (j := 1) cl7 hz dX7_payInterest_34 (by decide) wm_2_105 rfl (fun q8 => ?_)
        refine r_aload_n hz dX7_payInterest_37 1 rfl ?_
        refine r_getR (j := 1) cl7 hz dX7_payInterest_38 (by decide) wm_2_105 rfl (fun q9 => ?_)
        refine r_getR (j := 7) cl5 hz dX7_payInterest_41 (by decide) wm_1_160 rfl (fun q10 => ?_)
        refine r_iload_n hz dX7_payInterest_44 0 rfl ?_
        refine r_iald hz dX7_payInterest_45 ?_
        refine r_aload_n hz dX7_payInterest_46 1 rfl ?_
        refine r_getR (j := 0) cl7 hz dX7_payInterest_47 (by decide) wm_2_104 rfl (fun q11 => ?_)
        refine r_getR (j := 8) cl6 hz dX7_payInterest_50 (by decide) wm_1_66 rfl (fun q12 => ?_)
        refine r_iload_n hz dX7_payInterest_53 2 rfl ?_
        refine r_iald hz dX7_payInterest_54 ?_
        refine r_callVv (As := fun _ => [.int (gI M3 q10 (v4).toNatClampNeg), .int (gI M3 q12 (x1).toNatClampNeg)]) cl5 hz (fun _ _ h => t_X5_pay _ _ _ _ _ _ h) cal_X5_pay dX7_payInterest_55 wm_4_0 wm_4_1 wm_4_2 rfl rfl (Nat.le_of_ble_eq_true rfl) ⟨(Nat.le_of_ble_eq_true rfl), (Nat.le_of_ble_eq_true rfl)⟩ ⟨(Nat.le_of_ble_eq_true rfl), (Nat.le_of_ble_eq_true rfl)⟩ (fun _ M13 => ?_)
        refine r_iinc (v := (x2 + (1 : Int32))) (lv' := [(2, .int (x2 + (1 : Int32))), (3, .int v4), (0, .ref x0), (1, .int x1)]) hz dX7_payInterest_58 3 rfl rfl (by decide) rfl ?_
        refine r_goto (tgt := 2) hz dX7_payInterest_61 rfl ?_
        refine r_sub [2, 3, 0] rfl ?_
        exact ih x0 x1 (x2 + (1 : Int32)) M13
def f_X7_payInterest (p0 : Nat) (p1 : Int32) (M : Mm) : Option (Unit × Mm) :=
  f_X7_payInterest_2 FU p0 p1 (1 : Int32) M
set_option maxRecDepth 20000 in
set_option maxHeartbeats 4000000 in
theorem t_X7_payInterest (p0 : Nat) (p1 : Int32) (M : Mm) (x : Unit) (M' : Mm) (h : f_X7_payInterest p0 p1 M = some (x, M')) : Ctr yX7_payInterest cX7_payInterest 4 none rX7_payInterest (fun _ => [.ref p0, .int p1]) M (zU x) M' := by
  refine ctr_of (plainFor_of_name (by decide)) (fun _ => Nat.le_of_ble_eq_true rfl) (fun z hz hin hq => ?_)
  have key : Sim z 0 [(0, .ref p0), (1, .int p1)] [] M 0 0 (f_X7_payInterest p0 p1 M) (fun a b => a = x ∧ b = M') := by
    have hq : Ret z zU (fun a b => a = x ∧ b = M') := fun a b e => by rw [e.1, e.2]; exact hq
    unfold f_X7_payInterest
    refine r_iconst (v := 1) hz dX7_payInterest_0 rfl ?_
    refine r_istore_n (lv' := [(2, .int (1 : Int32)), (0, .ref p0), (1, .int p1)]) hz dX7_payInterest_1 (by decide) rfl ?_
    refine r_sub [1, 2, 0] rfl ?_
    exact s_X7_payInterest_2 hz hq FU p0 p1 (1 : Int32) M
  exact key x M' h ⟨rfl, rfl⟩
theorem dX7_passYear_0 : decode cX7_passYear 0 = .ok (.aload_n 0, 1) := by decide +kernel
theorem dX7_passYear_1 : decode cX7_passYear 1 = .ok (.getfield 52, 3) := by decide +kernel
theorem dX7_passYear_4 : decode cX7_passYear 4 = .ok (.aload_n 0, 1) := by decide +kernel
theorem dX7_passYear_5 : decode cX7_passYear 5 = .ok (.getfield 10, 3) := by decide +kernel
theorem dX7_passYear_8 : decode cX7_passYear 8 = .ok (.aload_n 0, 1) := by decide +kernel
theorem dX7_passYear_9 : decode cX7_passYear 9 = .ok (.getfield 19, 3) := by decide +kernel
theorem dX7_passYear_12 : decode cX7_passYear 12 = .ok (.iload_n 1, 1) := by decide +kernel
theorem dX7_passYear_13 : decode cX7_passYear 13 = .ok (.invokevirtual 208, 3) := by decide +kernel
theorem dX7_passYear_16 : decode cX7_passYear 16 = .ok (.aload_n 0, 1) := by decide +kernel
theorem dX7_passYear_17 : decode cX7_passYear 17 = .ok (.iload_n 1, 1) := by decide +kernel
theorem dX7_passYear_18 : decode cX7_passYear 18 = .ok (.invokevirtual 212, 3) := by decide +kernel
theorem dX7_passYear_21 : decode cX7_passYear 21 = .ok (.aload_n 0, 1) := by decide +kernel
theorem dX7_passYear_22 : decode cX7_passYear 22 = .ok (.getfield 19, 3) := by decide +kernel
theorem dX7_passYear_25 : decode cX7_passYear 25 = .ok (.getfield 215, 3) := by decide +kernel
theorem dX7_passYear_28 : decode cX7_passYear 28 = .ok (.iload_n 1, 1) := by decide +kernel
theorem dX7_passYear_29 : decode cX7_passYear 29 = .ok (.iload_n 2, 1) := by decide +kernel
theorem dX7_passYear_30 : decode cX7_passYear 30 = .ok (.invokestatic 196, 3) := by decide +kernel
theorem dX7_passYear_33 : decode cX7_passYear 33 = .ok (.aload_n 0, 1) := by decide +kernel
theorem dX7_passYear_34 : decode cX7_passYear 34 = .ok (.getfield 19, 3) := by decide +kernel
theorem dX7_passYear_37 : decode cX7_passYear 37 = .ok (.getfield 148, 3) := by decide +kernel
theorem dX7_passYear_40 : decode cX7_passYear 40 = .ok (.iload_n 1, 1) := by decide +kernel
theorem dX7_passYear_41 : decode cX7_passYear 41 = .ok (.iaload, 1) := by decide +kernel
theorem dX7_passYear_42 : decode cX7_passYear 42 = .ok (.iastore, 1) := by decide +kernel
theorem dX7_passYear_43 : decode cX7_passYear 43 = .ok (.aload_n 0, 1) := by decide +kernel
theorem dX7_passYear_44 : decode cX7_passYear 44 = .ok (.getfield 59, 3) := by decide +kernel
theorem dX7_passYear_47 : decode cX7_passYear 47 = .ok (.aload_n 0, 1) := by decide +kernel
theorem dX7_passYear_48 : decode cX7_passYear 48 = .ok (.getfield 10, 3) := by decide +kernel
theorem dX7_passYear_51 : decode cX7_passYear 51 = .ok (.aload_n 0, 1) := by decide +kernel
theorem dX7_passYear_52 : decode cX7_passYear 52 = .ok (.getfield 19, 3) := by decide +kernel
theorem dX7_passYear_55 : decode cX7_passYear 55 = .ok (.iload_n 1, 1) := by decide +kernel
theorem dX7_passYear_56 : decode cX7_passYear 56 = .ok (.iload_n 2, 1) := by decide +kernel
theorem dX7_passYear_57 : decode cX7_passYear 57 = .ok (.aload_n 0, 1) := by decide +kernel
theorem dX7_passYear_58 : decode cX7_passYear 58 = .ok (.getfield 19, 3) := by decide +kernel
theorem dX7_passYear_61 : decode cX7_passYear 61 = .ok (.getfield 148, 3) := by decide +kernel
theorem dX7_passYear_64 : decode cX7_passYear 64 = .ok (.iload_n 1, 1) := by decide +kernel
theorem dX7_passYear_65 : decode cX7_passYear 65 = .ok (.iaload, 1) := by decide +kernel
theorem dX7_passYear_66 : decode cX7_passYear 66 = .ok (.invokevirtual 218, 3) := by decide +kernel
theorem dX7_passYear_69 : decode cX7_passYear 69 = .ok (.aload_n 0, 1) := by decide +kernel
theorem dX7_passYear_70 : decode cX7_passYear 70 = .ok (.getfield 52, 3) := by decide +kernel
theorem dX7_passYear_73 : decode cX7_passYear 73 = .ok (.getfield 222, 3) := by decide +kernel
theorem dX7_passYear_76 : decode cX7_passYear 76 = .ok (.iload_n 2, 1) := by decide +kernel
theorem dX7_passYear_77 : decode cX7_passYear 77 = .ok (.iaload, 1) := by decide +kernel
theorem dX7_passYear_78 : decode cX7_passYear 78 = .ok (.iconst 1, 1) := by decide +kernel
theorem dX7_passYear_79 : decode cX7_passYear 79 = .ok (.if_icmp .ne 7, 3) := by decide +kernel
theorem dX7_passYear_82 : decode cX7_passYear 82 = .ok (.iconst 3, 1) := by decide +kernel
theorem dX7_passYear_83 : decode cX7_passYear 83 = .ok (.goto 4, 3) := by decide +kernel
theorem dX7_passYear_86 : decode cX7_passYear 86 = .ok (.iconst 1, 1) := by decide +kernel
theorem dX7_passYear_87 : decode cX7_passYear 87 = .ok (.istore_n 3, 1) := by decide +kernel
theorem dX7_passYear_88 : decode cX7_passYear 88 = .ok (.aload_n 0, 1) := by decide +kernel
theorem dX7_passYear_89 : decode cX7_passYear 89 = .ok (.getfield 52, 3) := by decide +kernel
theorem dX7_passYear_92 : decode cX7_passYear 92 = .ok (.getfield 225, 3) := by decide +kernel
theorem dX7_passYear_95 : decode cX7_passYear 95 = .ok (.iload_n 2, 1) := by decide +kernel
theorem dX7_passYear_96 : decode cX7_passYear 96 = .ok (.iaload, 1) := by decide +kernel
theorem dX7_passYear_97 : decode cX7_passYear 97 = .ok (.istore 4, 2) := by decide +kernel
theorem dX7_passYear_99 : decode cX7_passYear 99 = .ok (.iconst 1, 1) := by decide +kernel
theorem dX7_passYear_100 : decode cX7_passYear 100 = .ok (.istore 5, 2) := by decide +kernel
theorem dX7_passYear_102 : decode cX7_passYear 102 = .ok (.iload 5, 2) := by decide +kernel
theorem dX7_passYear_104 : decode cX7_passYear 104 = .ok (.iload 4, 2) := by decide +kernel
theorem dX7_passYear_106 : decode cX7_passYear 106 = .ok (.if_icmp .gt 80, 3) := by decide +kernel
theorem dX7_passYear_109 : decode cX7_passYear 109 = .ok (.aload_n 0, 1) := by decide +kernel
theorem dX7_passYear_110 : decode cX7_passYear 110 = .ok (.getfield 59, 3) := by decide +kernel
theorem dX7_passYear_113 : decode cX7_passYear 113 = .ok (.invokevirtual 228, 3) := by decide +kernel
theorem dX7_passYear_116 : decode cX7_passYear 116 = .ok (.istore 6, 2) := by decide +kernel
theorem dX7_passYear_118 : decode cX7_passYear 118 = .ok (.iload 6, 2) := by decide +kernel
theorem dX7_passYear_120 : decode cX7_passYear 120 = .ok (.iconst 1, 1) := by decide +kernel
theorem dX7_passYear_121 : decode cX7_passYear 121 = .ok (.if_icmp .lt 59, 3) := by decide +kernel
theorem dX7_passYear_124 : decode cX7_passYear 124 = .ok (.iload_n 1, 1) := by decide +kernel
theorem dX7_passYear_125 : decode cX7_passYear 125 = .ok (.iload 6, 2) := by decide +kernel
theorem dX7_passYear_127 : decode cX7_passYear 127 = .ok (.invokestatic 170, 3) := by decide +kernel
theorem dX7_passYear_130 : decode cX7_passYear 130 = .ok (.istore 7, 2) := by decide +kernel
theorem dX7_passYear_132 : decode cX7_passYear 132 = .ok (.aload_n 0, 1) := by decide +kernel
theorem dX7_passYear_133 : decode cX7_passYear 133 = .ok (.getfield 19, 3) := by decide +kernel
theorem dX7_passYear_136 : decode cX7_passYear 136 = .ok (.iload 7, 2) := by decide +kernel
theorem dX7_passYear_138 : decode cX7_passYear 138 = .ok (.iload_n 3, 1) := by decide +kernel
theorem dX7_passYear_139 : decode cX7_passYear 139 = .ok (.iload_n 2, 1) := by decide +kernel
theorem dX7_passYear_140 : decode cX7_passYear 140 = .ok (.iload 5, 2) := by decide +kernel
theorem dX7_passYear_142 : decode cX7_passYear 142 = .ok (.invokevirtual 231, 3) := by decide +kernel
theorem dX7_passYear_145 : decode cX7_passYear 145 = .ok (.aload_n 0, 1) := by decide +kernel
theorem dX7_passYear_146 : decode cX7_passYear 146 = .ok (.getfield 19, 3) := by decide +kernel
theorem dX7_passYear_149 : decode cX7_passYear 149 = .ok (.aload_n 0, 1) := by decide +kernel
theorem dX7_passYear_150 : decode cX7_passYear 150 = .ok (.getfield 19, 3) := by decide +kernel
theorem dX7_passYear_153 : decode cX7_passYear 153 = .ok (.getfield 177, 3) := by decide +kernel
theorem dX7_passYear_156 : decode cX7_passYear 156 = .ok (.iload 7, 2) := by decide +kernel
theorem dX7_passYear_158 : decode cX7_passYear 158 = .ok (.iaload, 1) := by decide +kernel
theorem dX7_passYear_159 : decode cX7_passYear 159 = .ok (.iload_n 3, 1) := by decide +kernel
theorem dX7_passYear_160 : decode cX7_passYear 160 = .ok (.iconst 3, 1) := by decide +kernel
theorem dX7_passYear_161 : decode cX7_passYear 161 = .ok (.if_icmp .ne 15, 3) := by decide +kernel
theorem dX7_passYear_164 : decode cX7_passYear 164 = .ok (.aload_n 0, 1) := by decide +kernel
theorem dX7_passYear_165 : decode cX7_passYear 165 = .ok (.getfield 52, 3) := by decide +kernel
theorem dX7_passYear_168 : decode cX7_passYear 168 = .ok (.getfield 235, 3) := by decide +kernel
theorem dX7_passYear_171 : decode cX7_passYear 171 = .ok (.iload_n 2, 1) := by decide +kernel
theorem dX7_passYear_172 : decode cX7_passYear 172 = .ok (.iaload, 1) := by decide +kernel
theorem dX7_passYear_173 : decode cX7_passYear 173 = .ok (.goto 4, 3) := by decide +kernel
theorem dX7_passYear_176 : decode cX7_passYear 176 = .ok (.iconst 0, 1) := by decide +kernel
theorem dX7_passYear_177 : decode cX7_passYear 177 = .ok (.invokevirtual 238, 3) := by decide +kernel
theorem dX7_passYear_180 : decode cX7_passYear 180 = .ok (.iinc 5 1, 3) := by decide +kernel
theorem dX7_passYear_183 : decode cX7_passYear 183 = .ok (.goto (-81), 3) := by decide +kernel
theorem dX7_passYear_186 : decode cX7_passYear 186 = .ok (.aload_n 0, 1) := by decide +kernel
theorem dX7_passYear_187 : decode cX7_passYear 187 = .ok (.getfield 19, 3) := by decide +kernel
theorem dX7_passYear_190 : decode cX7_passYear 190 = .ok (.getfield 148, 3) := by decide +kernel
theorem dX7_passYear_193 : decode cX7_passYear 193 = .ok (.iload_n 1, 1) := by decide +kernel
theorem dX7_passYear_194 : decode cX7_passYear 194 = .ok (.aload_n 0, 1) := by decide +kernel
theorem dX7_passYear_195 : decode cX7_passYear 195 = .ok (.getfield 59, 3) := by decide +kernel
theorem dX7_passYear_198 : decode cX7_passYear 198 = .ok (.getfield 242, 3) := by decide +kernel
theorem dX7_passYear_201 : decode cX7_passYear 201 = .ok (.iastore, 1) := by decide +kernel
theorem dX7_passYear_202 : decode cX7_passYear 202 = .ok (.aload_n 0, 1) := by decide +kernel
theorem dX7_passYear_203 : decode cX7_passYear 203 = .ok (.getfield 19, 3) := by decide +kernel
theorem dX7_passYear_206 : decode cX7_passYear 206 = .ok (.getfield 151, 3) := by decide +kernel
theorem dX7_passYear_209 : decode cX7_passYear 209 = .ok (.iload_n 1, 1) := by decide +kernel
theorem dX7_passYear_210 : decode cX7_passYear 210 = .ok (.aload_n 0, 1) := by decide +kernel
theorem dX7_passYear_211 : decode cX7_passYear 211 = .ok (.getfield 52, 3) := by decide +kernel
theorem dX7_passYear_214 : decode cX7_passYear 214 = .ok (.getfield 245, 3) := by decide +kernel
theorem dX7_passYear_217 : decode cX7_passYear 217 = .ok (.iload_n 2, 1) := by decide +kernel
theorem dX7_passYear_218 : decode cX7_passYear 218 = .ok (.iaload, 1) := by decide +kernel
theorem dX7_passYear_219 : decode cX7_passYear 219 = .ok (.iastore, 1) := by decide +kernel
theorem dX7_passYear_220 : decode cX7_passYear 220 = .ok (.iload 4, 2) := by decide +kernel
theorem dX7_passYear_222 : decode cX7_passYear 222 = .ok (.ireturn, 1) := by decide +kernel
abbrev rX7_passYear : Room := { frames := 4, cells := 0, slots := 0, locals := 92 }
theorem cal_X7_passYear : CalOk yX7_passYear cX7_passYear 8 (some .int) 2 := ⟨wm_3_207, wm_1_1, by decide, by decide, by decide +kernel⟩
def f_X7_passYear_102 : Nat → Nat → Int32 → Int32 → Int32 → Int32 → Int32 → Mm → Option (Int32 × Mm)
  | 0, _, _, _, _, _, _, _ => none
  | n + 1, x0, x1, x2, x3, x4, x5, M =>
    (if x4 < x5 then
      ck (gK M x0 = 7) (bR (gR M x0 1) fun q1 => ck (gK M q1 = 5) (bR (gR M q1 2) fun q2 => ck (gK M x0 = 7) (bR (gR M x0 9) fun q3 => ck (gK M q3 = 1) (ck (gK M q2 = 10 ∧ inb x1 (gN M q2)) (nm (sI M q2 (x1).toNatClampNeg (gI M q3 2)) fun M4 =>
      ck (gK M4 x0 = 7) (bR (gR M4 x0 1) fun q5 => ck (gK M4 q5 = 5) (bR (gR M4 q5 3) fun q6 => ck (gK M4 x0 = 7) (bR (gR M4 x0 8) fun q7 => ck (gK M4 q7 = 4) (bR (gR M4 q7 16) fun q8 => ck (gK M4 q8 = 10 ∧ inb x2 (gN M4 q8)) (ck (gK M4 q6 = 10 ∧ inb x1 (gN M4 q6)) (nm (sI M4 q6 (x1).toNatClampNeg (gI M4 q8 (x2).toNatClampNeg)) fun M9 =>
      some (x4, M9))))))))))))
    else
      ck (gK M x0 = 7) (bR (gR M x0 9) fun q10 => ck (gK M q10 = 1) (bd (f_X1_draw q10 M) fun v12 M11 =>
      (if v12 < (1 : Int32) then
        f_X7_passYear_102 n x0 x1 x2 x3 x4 (x5 + (1 : Int32)) M11
      else
        bd (f_X7_spotOf x1 v12 M11) fun v15 M14 =>
        ck (gK M14 x0 = 7) (bR (gR M14 x0 1) fun q16 => ck (gK M14 q16 = 5) (bd (f_X5_retire q16 v15 x3 x2 x5 M14) fun _ M17 =>
        ck (gK M17 x0 = 7) (bR (gR M17 x0 1) fun q18 => ck (gK M17 x0 = 7) (bR (gR M17 x0 1) fun q19 => ck (gK M17 q19 = 5) (bR (gR M17 q19 7) fun q20 => ck (gK M17 q20 = 10 ∧ inb v15 (gN M17 q20)) ((if ¬ x3 = (3 : Int32) then
          ck (gK M17 q18 = 5) (bd (f_X5_pay q18 (gI M17 q20 (v15).toNatClampNeg) (0 : Int32) M17) fun _ M21 =>
          f_X7_passYear_102 n x0 x1 x2 x3 x4 (x5 + (1 : Int32)) M21)
        else
          ck (gK M17 x0 = 7) (bR (gR M17 x0 8) fun q23 => ck (gK M17 q23 = 4) (bR (gR M17 q23 14) fun q24 => ck (gK M17 q24 = 10 ∧ inb x2 (gN M17 q24)) (ck (gK M17 q18 = 5) (bd (f_X5_pay q18 (gI M17 q20 (v15).toNatClampNeg) (gI M17 q24 (x2).toNatClampNeg) M17) fun _ M25 =>
          f_X7_passYear_102 n x0 x1 x2 x3 x4 (x5 + (1 : Int32)) M25)))))))))))))))
set_option maxRecDepth 20000 in
set_option maxHeartbeats 4000000 in
theorem s_X7_passYear_102 {z : Zt} {K : Int32 → Mm → Prop} (hz : Good z RX7 cX7_passYear 8 rX7_passYear (some .int)) (hq : Ret z zI K) : ∀ (n : Nat) (x0 : Nat) (x1 : Int32) (x2 : Int32) (x3 : Int32) (x4 : Int32) (x5 : Int32) (M : Mm), Sim z 102 [(0, .ref x0), (1, .int x1), (2, .int x2), (3, .int x3), (4, .int x4), (5, .int x5)] [] M 0 0 (f_X7_passYear_102 n x0 x1 x2 x3 x4 x5 M) K := by
  intro n
  induction n with
  | zero => exact fun _ _ _ _ _ _ _ => r_none
  | succ n ih =>
    intro x0 x1 x2 x3 x4 x5 M
    unfold f_X7_passYear_102
    refine r_iload hz dX7_passYear_102 5 rfl ?_
    refine r_iload hz dX7_passYear_104 4 rfl ?_
    refine r_icmp_gt (tgt := 186) hz dX7_passYear_106 rfl ?_ ?_
    · refine r_aload_n hz dX7_passYear_186 0 rfl ?_
      refine r_getR (j := 1) cl7 hz dX7_passYear_187 (by decide) wm_2_105 rfl (fun q1 => ?_)
      refine r_getR (j := 2) cl5 hz dX7_passYear_190 (by decide) wm_1_146 rfl (fun q2 => ?_)
      refine r_iload_n hz dX7_passYear_193 1 rfl ?_
      refine r_aload_n hz dX7_passYear_194 0 rfl ?_
      refine r_getR (j := 9) cl7 hz dX7_passYear_195 (by decide) wm_2_113 rfl (fun q3 => ?_)
      refine r_getI (j := 2) cl1 hz dX7_passYear_198 (by decide) wm_2_66 rfl ?_
      refine r_iast hz dX7_passYear_201 ?_
      refine r_nmM (fun M4 => ?_)
      refine r_aload_n hz dX7_passYear_202 0 rfl ?_
      refine r_getR (j := 1) cl7 hz dX7_passYear_203 (by decide) wm_2_105 rfl (fun q5 => ?_)
      refine r_getR (j := 3) cl5 hz dX7_passYear_206 (by decide) wm_1_149 rfl (fun q6 => ?_)
      refine r_iload_n hz dX7_passYear_209 1 rfl ?_
      refine r_aload_n hz dX7_passYear_210 0 rfl ?_
      refine r_getR (j := 8) cl7 hz dX7_passYear_211 (by decide) wm_2_112 rfl (fun q7 => ?_)
      refine r_getR (j := 16) cl4 hz dX7_passYear_214 (by decide) wm_2_21 rfl (fun q8 => ?_)
      refine r_iload_n hz dX7_passYear_217 2 rfl ?_
      refine r_iald hz dX7_passYear_218 ?_
      refine r_iast hz dX7_passYear_219 ?_
      refine r_nmM (fun M9 => ?_)
      refine r_iload hz dX7_passYear_220 4 rfl ?_
      exact r_iret hz hq dX7_passYear_222 (Nat.le_of_ble_eq_true rfl) (Nat.le_of_ble_eq_true rfl)
    · refine r_aload_n hz dX7_passYear_109 0 rfl ?_
      refine r_getR (j := 9) cl7 hz dX7_passYear_110 (by decide) wm_2_113 rfl (fun q10 => ?_)
      refine r_callVi (As := fun _ => []) cl1 hz (fun _ _ h => t_X1_draw _ _ _ _ h) cal_X1_draw dX7_passYear_113 wm_4_11 wm_4_12 wm_4_13 rfl rfl (Nat.le_of_ble_eq_true rfl) ⟨(Nat.le_of_ble_eq_true rfl), (Nat.le_of_ble_eq_true rfl)⟩ ⟨(Nat.le_of_ble_eq_true rfl), (Nat.le_of_ble_eq_true rfl)⟩ (fun v12 M11 => ?_)
      refine r_istore (lv' := [(6, .int v12), (0, .ref x0), (1, .int x1), (2, .int x2), (3, .int x3), (4, .int x4), (5, .int x5)]) hz dX7_passYear_116 (by decide) rfl ?_
      refine r_iload hz dX7_passYear_118 0 rfl ?_
      refine r_iconst (v := 1) hz dX7_passYear_120 rfl ?_
      refine r_icmp_lt (tgt := 180) hz dX7_passYear_121 rfl ?_ ?_
      · refine r_iinc (v := (x5 + (1 : Int32))) (lv' := [(5, .int (x5 + (1 : Int32))), (6, .int v12), (0, .ref x0), (1, .int x1), (2, .int x2), (3, .int x3), (4, .int x4)]) hz dX7_passYear_180 6 rfl rfl (by decide) rfl ?_
        refine r_goto (tgt := 102) hz dX7_passYear_183 rfl ?_
        refine r_sub [2, 3, 4, 5, 6, 0] rfl ?_
        exact ih x0 x1 x2 x3 x4 (x5 + (1 : Int32)) M11
      · refine r_iload_n hz dX7_passYear_124 2 rfl ?_
        refine r_iload hz dX7_passYear_125 0 rfl ?_
        refine r_callSi (As := fun _ => [.int x1, .int v12]) hz (fun _ _ h => t_X7_spotOf _ _ _ _ _ h) cal_X7_spotOf dX7_passYear_127 wm_3_165 wm_3_78 rfl rfl (Nat.le_of_ble_eq_true rfl) ⟨(Nat.le_of_ble_eq_true rfl), (Nat.le_of_ble_eq_true rfl)⟩ ⟨(Nat.le_of_ble_eq_true rfl), (Nat.le_of_ble_eq_true rfl)⟩ (fun v15 M14 => ?_)
        refine r_istore (lv' := [(7, .int v15), (6, .int v12), (0, .ref x0), (1, .int x1), (2, .int x2), (3, .int x3), (4, .int x4), (5, .int x5)]) hz dX7_passYear_130 (by decide) rfl ?_
        refine r_aload_n hz dX7_passYear_132 2 rfl ?_
        refine r_getR (j := 1) cl7 hz dX7_passYear_133 (by decide) wm_2_105 rfl (fun q16 => ?_)
        refine r_iload hz dX7_passYear_136 0 rfl ?_
        refine r_iload_n hz dX7_passYear_138 5 rfl ?_
        refine r_iload_n hz dX7_passYear_139 4 rfl ?_
        refine r_iload hz dX7_passYear_140 7 rfl ?_
        refine r_callVv (As := fun _ => [.int v15, .int x3, .int x2, .int x5]) cl5 hz (fun _ _ h => t_X5_retire _ _ _ _ _ _ _ _ h) cal_X5_retire dX7_passYear_142 wm_4_20 wm_4_21 wm_4_22 rfl rfl (Nat.le_of_ble_eq_true rfl) ⟨(Nat.le_of_ble_eq_true rfl), (Nat.le_of_ble_eq_true rfl)⟩ ⟨(Nat.le_of_ble_eq_true rfl), (Nat.le_of_ble_eq_true rfl)⟩ (fun _ M17 => ?_)
        refine r_aload_n hz dX7_passYear_145 2 rfl ?_
        refine r_getR (j := 1) cl7 hz dX7_passYear_146 (by decide) wm_2_105 rfl (fun q18 => ?_)
        refine r_aload_n hz dX7_passYear_149 2 rfl ?_
        refine r_getR (j := 1) cl7 hz dX7_passYear_150 (by decide) wm_2_105 rfl (fun q19 => ?_)
        refine r_getR (j := 7) cl5 hz dX7_passYear_153 (by decide) wm_1_160 rfl (fun q20 => ?_)
        refine r_iload hz dX7_passYear_156 0 rfl ?_
        refine r_iald hz dX7_passYear_158 ?_
        refine r_iload_n hz dX7_passYear_159 5 rfl ?_
        refine r_iconst (v := 3) hz dX7_passYear_160 rfl ?_
        refine r_icmp_ne (tgt := 176) hz dX7_passYear_161 rfl ?_ ?_
        · refine r_iconst (v := 0) hz dX7_passYear_176 rfl ?_
          refine r_callVv (As := fun _ => [.int (gI M17 q20 (v15).toNatClampNeg), .int (0 : Int32)]) cl5 hz (fun _ _ h => t_X5_pay _ _ _ _ _ _ h) cal_X5_pay dX7_passYear_177 wm_4_0 wm_4_1 wm_4_2 rfl rfl (Nat.le_of_ble_eq_true rfl) ⟨(Nat.le_of_ble_eq_true rfl), (Nat.le_of_ble_eq_true rfl)⟩ ⟨(Nat.le_of_ble_eq_true rfl), (Nat.le_of_ble_eq_true rfl)⟩ (fun _ M21 => ?_)
          refine r_iinc (v := (x5 + (1 : Int32))) (lv' := [(5, .int (x5 + (1 : Int32))), (7, .int v15), (6, .int v12), (0, .ref x0), (1, .int x1), (2, .int x2), (3, .int x3), (4, .int x4)]) hz dX7_passYear_180 7 rfl rfl (by decide) rfl ?_
          refine r_goto (tgt := 102) hz dX7_passYear_183 rfl ?_
          refine r_sub [3, 4, 5, 6, 7, 0] rfl ?_
          exact ih x0 x1 x2 x3 x4 (x5 + (1 : Int32)) M21
        · refine r_aload_n hz dX7_passYear_164 2 rfl ?_
          refine r_getR (j := 8) cl7 hz dX7_passYear_165 (by decide) wm_2_112 rfl (fun q23 => ?_)
          refine r_getR (j := 14) cl4 hz dX7_passYear_168 (by decide) wm_2_17 rfl (fun q24 => ?_)
          refine r_iload_n hz dX7_passYear_171 4 rfl ?_
          refine r_iald hz dX7_passYear_172 ?_
          refine r_goto (tgt := 177) hz dX7_passYear_173 rfl ?_
          refine r_callVv (As := fun _ => [.int (gI M17 q20 (v15).toNatClampNeg), .int (gI M17 q24 (x2).toNatClampNeg)]) cl5 hz (fun _ _ h => t_X5_pay _ _ _ _ _ _ h) cal_X5_pay dX7_passYear_177 wm_4_0 wm_4_1 wm_4_2 rfl rfl (Nat.le_of_ble_eq_true rfl) ⟨(Nat.le_of_ble_eq_true rfl), (Nat.le_of_ble_eq_true rfl)⟩ ⟨(Nat.le_of_ble_eq_true rfl), (Nat.le_of_ble_eq_true rfl)⟩ (fun _ M25 => ?_)
          refine r_iinc (v := (x5 + (1 : Int32))) (lv' := [(5, .int (x5 + (1 : Int32))), (7, .int v15), (6, .int v12), (0, .ref x0), (1, .int x1), (2, .int x2), (3, .int x3), (4, .int x4)]) hz dX7_passYear_180 7 rfl rfl (by decide) rfl ?_
          refine r_goto (tgt := 102) hz dX7_passYear_183 rfl ?_
          refine r_sub [3, 4, 5, 6, 7, 0] rfl ?_
          exact ih x0 x1 x2 x3 x4 (x5 + (1 : Int32)) M25
def f_X7_passYear (p0 : Nat) (p1 : Int32) (p2 : Int32) (M : Mm) : Option (Int32 × Mm) :=
  ck (gK M p0 = 7) (bR (gR M p0 8) fun q1 => ck (gK M p0 = 7) (bR (gR M p0 0) fun q2 => ck (gK M p0 = 7) (bR (gR M p0 1) fun q3 => ck (gK M q1 = 4) (bd (f_X4_foresee q1 q2 q3 p1 M) fun _ M4 =>
  ck (gK M4 p0 = 7) (bd (f_X7_payInterest p0 p1 M4) fun _ M5 =>
  ck (gK M5 p0 = 7) (bR (gR M5 p0 1) fun q6 => ck (gK M5 q6 = 5) (bR (gR M5 q6 5) fun q7 => bd (f_X7_cellOf p1 p2 M5) fun v9 M8 =>
  ck (gK M8 p0 = 7) (bR (gR M8 p0 1) fun q10 => ck (gK M8 q10 = 5) (bR (gR M8 q10 2) fun q11 => ck (gK M8 q11 = 10 ∧ inb p1 (gN M8 q11)) (ck (gK M8 q7 = 10 ∧ inb v9 (gN M8 q7)) (nm (sI M8 q7 (v9).toNatClampNeg (gI M8 q11 (p1).toNatClampNeg)) fun M12 =>
  ck (gK M12 p0 = 7) (bR (gR M12 p0 9) fun q13 => ck (gK M12 p0 = 7) (bR (gR M12 p0 0) fun q14 => ck (gK M12 p0 = 7) (bR (gR M12 p0 1) fun q15 => ck (gK M12 p0 = 7) (bR (gR M12 p0 1) fun q16 => ck (gK M12 q16 = 5) (bR (gR M12 q16 2) fun q17 => ck (gK M12 q17 = 10 ∧ inb p1 (gN M12 q17)) (ck (gK M12 q13 = 1) (bd (f_X1_load q13 q14 q15 p1 p2 (gI M12 q17 (p1).toNatClampNeg) M12) fun _ M18 =>
  ck (gK M18 p0 = 7) (bR (gR M18 p0 8) fun q19 => ck (gK M18 q19 = 4) (bR (gR M18 q19 15) fun q20 => ck (gK M18 q20 = 10 ∧ inb p2 (gN M18 q20)) ((if ¬ (gI M18 q20 (p2).toNatClampNeg) = (1 : Int32) then
    ck (gK M18 p0 = 7) (bR (gR M18 p0 8) fun q21 => ck (gK M18 q21 = 4) (bR (gR M18 q21 13) fun q22 => ck (gK M18 q22 = 10 ∧ inb p2 (gN M18 q22)) (nm (gI M18 q22 (p2).toNatClampNeg) fun v23 =>
    f_X7_passYear_102 FU p0 p1 p2 (1 : Int32) v23 (1 : Int32) M18)))
  else
    ck (gK M18 p0 = 7) (bR (gR M18 p0 8) fun q24 => ck (gK M18 q24 = 4) (bR (gR M18 q24 13) fun q25 => ck (gK M18 q25 = 10 ∧ inb p2 (gN M18 q25)) (nm (gI M18 q25 (p2).toNatClampNeg) fun v26 =>
    f_X7_passYear_102 FU p0 p1 p2 (3 : Int32) v26 (1 : Int32) M18)))))))))))))))))))))))))
set_option maxRecDepth 20000 in
set_option maxHeartbeats 4000000 in
theorem t_X7_passYear (p0 : Nat) (p1 : Int32) (p2 : Int32) (M : Mm) (x : Int32) (M' : Mm) (h : f_X7_passYear p0 p1 p2 M = some (x, M')) : Ctr yX7_passYear cX7_passYear 8 (some .int) rX7_passYear (fun _ => [.ref p0, .int p1, .int p2]) M (zI x) M' := by
  refine ctr_of (plainFor_of_name (by decide)) (fun _ => Nat.le_of_ble_eq_true rfl) (fun z hz hin hq => ?_)
  have key : Sim z 0 [(0, .ref p0), (1, .int p1), (2, .int p2)] [] M 0 0 (f_X7_passYear p0 p1 p2 M) (fun a b => a = x ∧ b = M') := by
    have hq : Ret z zI (fun a b => a = x ∧ b = M') := fun a b e => by rw [e.1, e.2]; exact hq
    unfold f_X7_passYear
    refine r_aload_n hz dX7_passYear_0 0 rfl ?_
    refine r_getR (j := 8) cl7 hz dX7_passYear_1 (by decide) wm_2_112 rfl (fun q1 => ?_)
    refine r_aload_n hz dX7_passYear_4 0 rfl ?_
    refine r_getR (j := 0) cl7 hz dX7_passYear_5 (by decide) wm_2_104 rfl (fun q2 => ?_)
    refine r_aload_n hz dX7_passYear_8 0 rfl ?_
    refine r_getR (j := 1) cl7 hz dX7_passYear_9 (by decide) wm_2_105 rfl (fun q3 => ?_)
    refine r_iload_n hz dX7_passYear_12 1 rfl ?_
    refine r_callVv (As := fun _ => [.ref q2, .ref q3, .int p1]) cl4 hz (fun _ _ h => t_X4_foresee _ _ _ _ _ _ _ h) cal_X4_foresee dX7_passYear_13 wm_3_208 wm_3_209 wm_3_210 rfl rfl (Nat.le_of_ble_eq_true rfl) ⟨(Nat.le_of_ble_eq_true rfl), (Nat.le_of_ble_eq_true rfl)⟩ ⟨(Nat.le_of_ble_eq_true rfl), (Nat.le_of_ble_eq_true rfl)⟩ (fun _ M4 => ?_)
    refine r_aload_n hz dX7_passYear_16 0 rfl ?_
    refine r_iload_n hz dX7_passYear_17 1 rfl ?_
    refine r_callVv (As := fun _ => [.int p1]) cl7 hz (fun _ _ h => t_X7_payInterest _ _ _ _ _ h) cal_X7_payInterest dX7_passYear_18 wm_3_236 wm_3_238 wm_p_34 rfl rfl (Nat.le_of_ble_eq_true rfl) ⟨(Nat.le_of_ble_eq_true rfl), (Nat.le_of_ble_eq_true rfl)⟩ ⟨(Nat.le_of_ble_eq_true rfl), (Nat.le_of_ble_eq_true rfl)⟩ (fun _ M5 => ?_)
    refine r_aload_n hz dX7_passYear_21 0 rfl ?_
    refine r_getR (j := 1) cl7 hz dX7_passYear_22 (by decide) wm_2_105 rfl (fun q6 => ?_)
    refine r_getR (j := 5) cl5 hz dX7_passYear_25 (by decide) wm_1_154 rfl (fun q7 => ?_)
    refine r_iload_n hz dX7_passYear_28 1 rfl ?_
    refine r_iload_n hz dX7_passYear_29 2 rfl ?_
    refine r_callSi (As := fun _ => [.int p1, .int p2]) hz (fun _ _ h => t_X7_cellOf _ _ _ _ _ h) cal_X7_cellOf dX7_passYear_30 wm_3_183 wm_3_100 rfl rfl (Nat.le_of_ble_eq_true rfl) ⟨(Nat.le_of_ble_eq_true rfl), (Nat.le_of_ble_eq_true rfl)⟩ ⟨(Nat.le_of_ble_eq_true rfl), (Nat.le_of_ble_eq_true rfl)⟩ (fun v9 M8 => ?_)
    refine r_aload_n hz dX7_passYear_33 0 rfl ?_
    refine r_getR (j := 1) cl7 hz dX7_passYear_34 (by decide) wm_2_105 rfl (fun q10 => ?_)
    refine r_getR (j := 2) cl5 hz dX7_passYear_37 (by decide) wm_1_146 rfl (fun q11 => ?_)
    refine r_iload_n hz dX7_passYear_40 1 rfl ?_
    refine r_iald hz dX7_passYear_41 ?_
    refine r_iast hz dX7_passYear_42 ?_
    refine r_nmM (fun M12 => ?_)
    refine r_aload_n hz dX7_passYear_43 0 rfl ?_
    refine r_getR (j := 9) cl7 hz dX7_passYear_44 (by decide) wm_2_113 rfl (fun q13 => ?_)
    refine r_aload_n hz dX7_passYear_47 0 rfl ?_
    refine r_getR (j := 0) cl7 hz dX7_passYear_48 (by decide) wm_2_104 rfl (fun q14 => ?_)
    refine r_aload_n hz dX7_passYear_51 0 rfl ?_
    refine r_getR (j := 1) cl7 hz dX7_passYear_52 (by decide) wm_2_105 rfl (fun q15 => ?_)
    refine r_iload_n hz dX7_passYear_55 1 rfl ?_
    refine r_iload_n hz dX7_passYear_56 2 rfl ?_
    refine r_aload_n hz dX7_passYear_57 0 rfl ?_
    refine r_getR (j := 1) cl7 hz dX7_passYear_58 (by decide) wm_2_105 rfl (fun q16 => ?_)
    refine r_getR (j := 2) cl5 hz dX7_passYear_61 (by decide) wm_1_146 rfl (fun q17 => ?_)
    refine r_iload_n hz dX7_passYear_64 1 rfl ?_
    refine r_iald hz dX7_passYear_65 ?_
    refine r_callVv (As := fun _ => [.ref q14, .ref q15, .int p1, .int p2, .int (gI M12 q17 (p1).toNatClampNeg)]) cl1 hz (fun _ _ h => t_X1_load _ _ _ _ _ _ _ _ _ h) cal_X1_load dX7_passYear_66 wm_4_6 wm_4_7 wm_4_8 rfl rfl (Nat.le_of_ble_eq_true rfl) ⟨(Nat.le_of_ble_eq_true rfl), (Nat.le_of_ble_eq_true rfl)⟩ ⟨(Nat.le_of_ble_eq_true rfl), (Nat.le_of_ble_eq_true rfl)⟩ (fun _ M18 => ?_)
    refine r_aload_n hz dX7_passYear_69 0 rfl ?_
    refine r_getR (j := 8) cl7 hz dX7_passYear_70 (by decide) wm_2_112 rfl (fun q19 => ?_)
    refine r_getR (j := 15) cl4 hz dX7_passYear_73 (by decide) wm_2_19 rfl (fun q20 => ?_)
    refine r_iload_n hz dX7_passYear_76 2 rfl ?_
    refine r_iald hz dX7_passYear_77 ?_
    refine r_iconst (v := 1) hz dX7_passYear_78 rfl ?_
    refine r_icmp_ne (tgt := 86) hz dX7_passYear_79 rfl ?_ ?_
    · refine r_iconst (v := 1) hz dX7_passYear_86 rfl ?_
      refine r_istore_n (lv' := [(3, .int (1 : Int32)), (0, .ref p0), (1, .int p1), (2, .int p2)]) hz dX7_passYear_87 (by decide) rfl ?_
      refine r_aload_n hz dX7_passYear_88 1 rfl ?_
      refine r_getR (j := 8) cl7 hz dX7_passYear_89 (by decide) wm_2_112 rfl (fun q21 => ?_)
      refine r_getR (j := 13) cl4 hz dX7_passYear_92 (by decide) wm_2_15 rfl (fun q22 => ?_)
      refine r_iload_n hz dX7_passYear_95 3 rfl ?_
      refine r_iald hz dX7_passYear_96 ?_
      refine r_nmi (fun v23 => ?_)
      refine r_istore (lv' := [(4, .int v23), (3, .int (1 : Int32)), (0, .ref p0), (1, .int p1), (2, .int p2)]) hz dX7_passYear_97 (by decide) rfl ?_
      refine r_iconst (v := 1) hz dX7_passYear_99 rfl ?_
      refine r_istore (lv' := [(5, .int (1 : Int32)), (4, .int v23), (3, .int (1 : Int32)), (0, .ref p0), (1, .int p1), (2, .int p2)]) hz dX7_passYear_100 (by decide) rfl ?_
      refine r_sub [3, 4, 5, 2, 1, 0] rfl ?_
      exact s_X7_passYear_102 hz hq FU p0 p1 p2 (1 : Int32) v23 (1 : Int32) M18
    · refine r_iconst (v := 3) hz dX7_passYear_82 rfl ?_
      refine r_goto (tgt := 87) hz dX7_passYear_83 rfl ?_
      refine r_istore_n (lv' := [(3, .int (3 : Int32)), (0, .ref p0), (1, .int p1), (2, .int p2)]) hz dX7_passYear_87 (by decide) rfl ?_
      refine r_aload_n hz dX7_passYear_88 1 rfl ?_
      refine r_getR (j := 8) cl7 hz dX7_passYear_89 (by decide) wm_2_112 rfl (fun q24 => ?_)
      refine r_getR (j := 13) cl4 hz dX7_passYear_92 (by decide) wm_2_15 rfl (fun q25 => ?_)
      refine r_iload_n hz dX7_passYear_95 3 rfl ?_
      refine r_iald hz dX7_passYear_96 ?_
      refine r_nmi (fun v26 => ?_)
      refine r_istore (lv' := [(4, .int v26), (3, .int (3 : Int32)), (0, .ref p0), (1, .int p1), (2, .int p2)]) hz dX7_passYear_97 (by decide) rfl ?_
      refine r_iconst (v := 1) hz dX7_passYear_99 rfl ?_
      refine r_istore (lv' := [(5, .int (1 : Int32)), (4, .int v26), (3, .int (3 : Int32)), (0, .ref p0), (1, .int p1), (2, .int p2)]) hz dX7_passYear_100 (by decide) rfl ?_
      refine r_sub [3, 4, 5, 2, 1, 0] rfl ?_
      exact s_X7_passYear_102 hz hq FU p0 p1 p2 (3 : Int32) v26 (1 : Int32) M18
  exact key x M' h ⟨rfl, rfl⟩
