def bdX {β : Type} (r : Option (Option Int32 × Mm)) (f1 : Int32 → Mm → Option β) (f2 : Mm → Option β) : Option β := match r with
  | none => none
  | some (some v, M) => f1 v M
  | some (none, M) => f2 M
def f_L_loan (p0 : Nat) (p1 p2 : Int32) (p3 : Nat) (M : Mm) : Option (Int32 × Mm) :=
  ck (gK M p0 = 7) (bdX (f_X7_loan p0 p1 p2 M) (fun v M1 => ck (gK M1 p3 = 13 ∧ inb 0 (gN M1 p3)) (nm (sL M1 p3 (0 : Int32).toNatClampNeg v.toInt64) fun M2 => some (0, M2))) (fun M1 => some (1, M1)))
abbrev xTab : List (Nat × Nat × Nat × Nat) := [(0, 10, 13, 13)]
abbrev rL_loan : Room := { frames := 7, cells := 1, slots := 6, locals := 104 }
/-- the law's own method that catches -/
def CtrW (x : Int32) (M' : Mm) (p0 : Nat) (p1 p2 : Int32) (p3 : Nat) (M : Mm) : Prop :=
  ∀ (l : Launch) (g : Gd), l.stackTraces = false → Met l yL_loan (Cond.codeWith yL_loan cL_loan 5 (some .int) xTab :: Wd) rL_loan (PoX g [.ref p0, .int p1, .int p2, .ref p3] M) (Qo g (zI x) M') rL_loan.cells rL_loan.slots (fun q => g.2.2.1 ≤ q)
def GoodW (z : Zt) : Prop := match z with
  | (g, _, l, _, _, s, _, _, _, _, c, _, _) => XZ g s ∧ l.stackTraces = false ∧ c.exceptionTable.toList = tableOf xTab
theorem r_callX {z : Zt} {nL : Nat} {rm : Room} {lv : List (Nat × Value)} {st : List Value} {M : Mm} {k n : Nat} {K : Int32 → Mm → Prop} {p0 : Nat} {p1 p2 : Int32} {f1 : Int32 → Mm → Option (Int32 × Mm)} {f2 : Mm → Option (Int32 × Mm)} {dc : Decidable (gK M p0 = 7)}
    (hz : Good z RL cL_loan nL rm (some .int)) (hG : GoodW z) (hW : (st.map fun v => v.category).sum ≤ 8) (hR : rX7_loan.frames + 1 ≤ rm.frames ∧ 8 + (3 + 11) + rX7_loan.locals ≤ rm.locals) (hc : k + rX7_loan.cells ≤ rm.cells ∧ n + rX7_loan.slots ≤ rm.slots)
    (h1 : ∀ v M1, Sim z 8 lv (.int v :: st) M1 (k + rX7_loan.cells) (n + rX7_loan.slots) (f1 v M1) K) (h2 : ∀ q M1, Sim z 13 lv [.ref q] M1 (k + rX7_loan.cells) (n + rX7_loan.slots) (f2 M1) K) :
    Sim z 5 lv (.int p2 :: .int p1 :: .ref p0 :: st) M k n (ck (gK M p0 = 7) (bdX (f_X7_loan p0 p1 p2 M) f1 f2)) K := by
  refine r_ck (fun hk => ?_)
  obtain ⟨g, p, l, e, R, s, m, args, below, meth, c, nLq, Q⟩ := z
  intro v0 M0 hr hK H locs ls hH hB hL hl
  obtain ⟨hx, hb, hml, hown, hts, hKN, hlk, hnl, hRm, hrt⟩ := hz
  subst hRm
  obtain ⟨hXZ, hst, htab⟩ := hG
  obtain ⟨cell, q1, q2, q3, -⟩ := at_obj hH hk cl7.1
  have hfc := (hKN.1.1 7 _ cl7.1).2.1
  have hts' : ∀ w ∈ Wd, w.before args s = true := hts
  have hrun : ∀ o M1, f_X7_loan p0 p1 p2 M = some (o, M1) → vx_Run p l e R s m args below meth c H locs k n rX7_loan.cells rX7_loan.slots (F0 m 5 ls (.int p2 :: .int p1 :: .ref p0 :: st)) st (Qx g o M1 (Value.ref p0 :: [.int p1, .int p2]).toArray) (XCx g o M1) (fun q => g.2.2.1 ≤ q) := fun o M1 ho =>
    vx_runV (C := RX7) (Ts := Wd) (As := [.int p1, .int p2]) ⟨hx, hb, hml, hown, hts'⟩ (t_X7_loan p0 p1 p2 M o M1 ho l g hst) ⟨callB_of 2 hts' (wd_sub cal_X7_loan.1) rfl rfl rfl (hts _ cal_X7_loan.2.1) (hts _ wm_4_220) cal_X7_loan.2.2 hR, hts _ wm_4_221, hts _ wm_4_222⟩ ⟨pox_blind, ⟨cell, q1, by rw [q3]; rfl, by rw [q2]; exact hfc⟩, fun U hU hWm => ⟨pre_of hKN hH hB U hU hWm, XZ.to hXZ hWm (fun q hq => by rw [hU]; exact hB q hq)⟩⟩ rfl rfl (by rw [hl.1, hnl]) rfl (lv_room hW) dL_loan_5 hc
  cases hf : f_X7_loan p0 p1 p2 M with
  | none => rw [hf] at hr; cases hr
  | some q =>
    obtain ⟨o, M1⟩ := q
    rw [hf] at hr
    intro T hT X
    rcases hrun o M1 hf T hT X with ⟨v, st₀, t, T', L, q0, X', qL, e3, e4, hq, st'⟩ | ⟨q, st₀, t, T', L, E, ce, q0, X', qL, e3, e4, ⟨ho, hE, hH', hO⟩, hce, hcv, hcl, st'⟩
    · cases o with
      | none => exact hq.elim
      | some x =>
        obtain ⟨hv, hH', hO⟩ := hq
        have hv' : v = zI x := Outcome.returned.inj hv
        subst hv'
        obtain ⟨t2, a1, b1⟩ := h1 x M1 v0 M0 hr hK T'.heap (locs ++ L) ls (by rw [e3]; exact hH') (fun q hq => by rw [e3, hO q hq, q0]; exact hB q hq) (loc_app hL qL) hl T' rfl X'
        exact ⟨t2, st' t2 a1, b1⟩
    · subst ho
      subst hE
      have hW2 := h2 q M1 v0 M0 hr hK T'.heap (locs ++ L) ls (by rw [e3]; exact hH') (fun q hq => by rw [e3, hO q hq, q0]; exact hB q hq) (loc_app hL qL) hl
      obtain ⟨t2, a1, b1⟩ := vx_catch (pc := 5) (rest := st) (own := RL) (name := nsE) (E := nsE) (ce := ce) hown [] { startPc := 0, endPc := 10, handlerPc := 13, catchType := 13 } [] (by rw [htab]; rfl) (fun z hz => by cases hz) (by decide) (by decide) (hts _ wm_4_219) (va_Nw.use (xo_tab _ (List.mem_of_getElem? (i := 3) rfl)) (hXZ.2.2 _ (List.mem_of_getElem? (i := 3) rfl))) (by rw [e3]; exact hce) hcv hcl hW2 T' rfl X'
      exact ⟨t2, st'.trans a1, b1⟩
set_option maxRecDepth 20000 in
set_option maxHeartbeats 4000000 in
theorem t_L_loan (p0 : Nat) (p1 p2 : Int32) (p3 : Nat) (M : Mm) (x : Int32) (M' : Mm) (h : f_L_loan p0 p1 p2 p3 M = some (x, M')) : CtrW x M' p0 p1 p2 p3 M := by
  intro l g hst
  refine va_MetW (cc := cL_loan) (maxL := 5) (ret := some .int) (hh := xTab) (by decide) rfl ?_
  intro p e s m args below meth c s₁ B hml hv
  obtain ⟨⟨rfl, hH, hKN⟩, hXZ⟩ := hv
  have hts := atoms_spec (ws := Cond.codeWith yL_loan cL_loan 5 (some .int) xTab :: Wd) B.pre
  have hown : s.vm.findClass RL = some m.cls := findClass_of_methodNamed B.named
  have htab := vx_table (x := yL_loan) B (hts _ List.mem_cons_self)
  have hl := lv_entry ([.ref p0, .int p1, .int p2, .ref p3]) (n := 5) (Nat.le_of_ble_eq_true rfl)
  rw [lg_entry_eq]
  have body : ∀ z : Zt, Good z RL cL_loan 5 rL_loan (some .int) → GoodW z → RetOk z (zI x) M' → Cfg z 0 [(0, .ref p0), (1, .int p1), (2, .int p2), (3, .ref p3)] [] M 0 0 := by
    intro z hz hG hq
    have key : Sim z 0 [(0, .ref p0), (1, .int p1), (2, .int p2), (3, .ref p3)] [] M 0 0 (f_L_loan p0 p1 p2 p3 M) (fun a b => a = x ∧ b = M') := by
      have hq : Ret z zI (fun a b => a = x ∧ b = M') := fun a b e => by rw [e.1, e.2]; exact hq
      unfold f_L_loan
      refine r_aload_n hz dL_loan_0 3 rfl ?_
      refine r_iconst (v := 0) hz dL_loan_1 rfl ?_
      refine r_aload_n hz dL_loan_2 0 rfl ?_
      refine r_iload_n hz dL_loan_3 1 rfl ?_
      refine r_iload_n hz dL_loan_4 2 rfl ?_
      refine r_callX hz hG (Nat.le_of_ble_eq_true rfl) ⟨Nat.le_of_ble_eq_true rfl, Nat.le_of_ble_eq_true rfl⟩ ⟨Nat.le_of_ble_eq_true rfl, Nat.le_of_ble_eq_true rfl⟩ (fun v M1 => ?_) (fun q M1 => ?_)
      · refine r_i2l hz dL_loan_8 ?_
        refine r_last hz dL_loan_9 ?_
        refine r_nmM (fun M2 => ?_)
        refine r_goto (tgt := 17) hz dL_loan_10 rfl ?_
        refine r_iconst (v := 0) hz dL_loan_17 rfl ?_
        exact r_iret hz hq dL_loan_18 (Nat.le_of_ble_eq_true rfl) (Nat.le_of_ble_eq_true rfl)
      · refine r_astore (lv' := [(4, .ref q), (0, .ref p0), (1, .int p1), (2, .int p2), (3, .ref p3)]) hz dL_loan_13 (by decide) rfl ?_
        refine r_iconst (v := 1) hz dL_loan_15 rfl ?_
        exact r_iret hz hq dL_loan_16 (Nat.le_of_ble_eq_true rfl) (Nat.le_of_ble_eq_true rfl)
    exact key x M' h ⟨rfl, rfl⟩
  have hb := body (g, p, l, e, rL_loan, s, m, ([.ref p0, .int p1, .int p2, .ref p3] : List Value).toArray, below, meth, c, 5, MQ below (Qo g (zI x) M') ([.ref p0, .int p1, .int p2, .ref p3] : List Value).toArray s rL_loan.cells rL_loan.slots (fun q => g.2.2.1 ≤ q)) ⟨B.exec, B.bytes, hml, hown, fun w hw => hts w (List.mem_cons_of_mem _ hw), hKN, B.notSynchronized, rfl, rfl, B.returns⟩ ⟨hXZ, hst, htab⟩ rfl
  exact hb s.heap [] _ hH (fun _ _ => rfl) (fun x hx => by cases hx) hl
