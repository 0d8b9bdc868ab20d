def nsE : String := "java/util/NoSuchElementException"
def xoL : List Cond := [Cond.declares (Bundle.initS "java/lang/RuntimeException"), Cond.declares (Bundle.initS "java/lang/Exception"), Cond.declares (Bundle.initS Bundle.tN), Cond.castable nsE nsE]
theorem xo_warm {s U : State} (hW : s.WarmedH U.vm) : ∀ w ∈ xoL, va_Nw w s → va_Nw w U := by
  unfold xoL
  exact List.forall_mem_cons.mpr ⟨va_Nw.warmD hW, List.forall_mem_cons.mpr ⟨va_Nw.warmD hW, List.forall_mem_cons.mpr ⟨va_Nw.warmD hW, List.forall_mem_cons.mpr ⟨va_Nw.warmC hW, fun _ h => absurd h List.not_mem_nil⟩⟩⟩⟩
theorem xo_tab : ∀ w ∈ xoL, w.onTables = true := by decide +kernel
def XZ (g : Gd) (U : State) : Prop := vx_Zq Bundle.tN "UNASSIGNED_STACK" Bundle.steD (fun a => g.2.2.1 ≤ a) U U.heap ∧ vx_Zq Bundle.tN "SUPPRESSED_SENTINEL" Bundle.listD (fun a => g.2.2.1 ≤ a) U U.heap ∧ ∀ w ∈ xoL, va_Nw w U
theorem XZ.to {g : Gd} {s U : State} (h : XZ g s) (hW : s.WarmedH U.vm) (hh : ∀ q : Nat, q < g.2.2.1 → U.heap[q]? = s.heap[q]?) : XZ g U :=
  ⟨(vx_Zq.moved hW.alike h.1).kept (fun a _ hn => hh a (Nat.not_le.mp hn)), (vx_Zq.moved hW.alike h.2.1).kept (fun a _ hn => hh a (Nat.not_le.mp hn)), fun w hw => xo_warm hW w hw (h.2.2 w hw)⟩
def PoX (g : Gd) (As : List Value) (M : Mm) : Array Value → State → Prop := fun a U => Po g As M a U ∧ XZ g U
theorem pox_blind {g : Gd} {As : List Value} {M : Mm} : FrameBlind (PoX g As M) := fun a U f mk h => ⟨po_blind a U f mk h.1, ⟨vx_Zq.moved (u := U) (U := U.calling f mk a) (Vm.Alike.refl U.vm) h.2.1, vx_Zq.moved (u := U) (U := U.calling f mk a) (Vm.Alike.refl U.vm) h.2.2.1, fun w hw => va_Nw.same (xo_tab w hw) (u := U) (U := U.calling f mk a) rfl (h.2.2.2 w hw)⟩⟩
def Qx (g : Gd) (o : Option Int32) (M : Mm) : Array Value → State → Outcome → State → Prop := match o with
  | some x => Qo g (zI x) M
  | none => fun _ _ _ _ => False
def XCx (g : Gd) (o : Option Int32) (M : Mm) : String → State → State → Prop := fun E st t => o = none ∧ E = nsE ∧ HH g M t.heap ∧ ∀ q : Nat, q < g.2.2.1 → t.heap[q]? = st.heap[q]?
def CtrX (y : MethodName) (cc : ByteArray) (maxL : Nat) (ret : Option FieldType) (rm : Room) (As : Gd → List Value) (M : Mm) (o : Option Int32) (M' : Mm) : Prop :=
  ∀ (l : Launch) (g : Gd), l.stackTraces = false → vx_Met l y (Cond.code y cc maxL ret :: Wd) rm (PoX g (As g) M) (Qx g o M') (XCx g o M') rm.cells rm.slots (fun q => g.2.2.1 ≤ q)
def GoodX (z : Zt) : Prop := match z with
  | (g, _, l, _, _, s, _, _, _, _, c, _, _) => XZ g s ∧ l.stackTraces = false ∧ ∀ x ∈ c.exceptionTable.toList, False
def RetX (z : Zt) (o : Option Int32) (M' : Mm) : Prop := match z with
  | (g, _, _, _, R, s, _, args, below, _, _, _, Q) => Q = vx_MQ below (Qx g o M') (XCx g o M') args s R.cells R.slots (fun q => g.2.2.1 ≤ q)
theorem ctrx_of {y : MethodName} {cc : ByteArray} {maxL : Nat} {ret : Option FieldType} {rm : Room} {As : Gd → List Value} {M : Mm} {o : Option Int32} {M' : Mm} (hy : plainName y.cls = true) (hlen : ∀ g, (lg_sl (As g)).length ≤ maxL)
    (body : ∀ z : Zt, Good z y.cls cc maxL rm ret → GoodX z → RetX z o M' → Cfg z 0 (lv_args 0 (As z.1)) [] M 0 0) : CtrX y cc maxL ret rm As M o M' := by
  intro l g hl0
  refine vx_ofW (cc := cc) (maxL := maxL) (ret := ret) hy rfl ?_
  intro p e s m args below meth c s₁ B hml htab hv
  obtain ⟨⟨rfl, hH, hKN⟩, hXZ⟩ := hv
  have hts := atoms_spec (ws := Cond.code y cc maxL ret :: Wd) B.pre
  have hown : s.vm.findClass y.cls = some m.cls := findClass_of_methodNamed B.named
  have hl := lv_entry (As g) (n := maxL) (hlen g)
  rw [lg_entry_eq]
  have hb := body (g, p, l, e, rm, s, m, (As g).toArray, below, meth, c, maxL, vx_MQ below (Qx g o M') (XCx g o M') (As g).toArray s rm.cells rm.slots (fun q => g.2.2.1 ≤ q)) ⟨B.exec, B.bytes, hml, hown, fun w hw => hts w (List.mem_cons_of_mem _ hw), hKN, B.notSynchronized, rfl, rfl, B.returns⟩ ⟨hXZ, hl0, htab⟩ rfl
  exact hb s.heap [] _ hH (fun _ _ => rfl) (fun x hx => by cases hx) hl
abbrev xNames : List String := ["java/lang/RuntimeException", "java/lang/Exception"]
theorem xw_0 : (Cond.initialized Bundle.tN) ∈ Wd := wd_t1 17 rfl rfl
theorem xw_1 : (Cond.superclass Bundle.tN "java/lang/Object") ∈ Wd := wd_t5 6 rfl rfl
theorem xw_2 : (Cond.instanceMethod Bundle.tFill) ∈ Wd := wd_t5 15 rfl rfl
theorem xw_3 : (Cond.codeSync Bundle.tFill LibCode.Throwable.Fill.code 1 (some (.object Bundle.tN))) ∈ Wd := wd_t5 17 rfl rfl
theorem xw_4 : (Cond.instanceMethod Bundle.tFill0) ∈ Wd := wd_t5 20 rfl rfl
theorem xw_5 : (Cond.native Bundle.tFill0) ∈ Wd := wd_t5 22 rfl rfl
theorem xw_6 : (Cond.instanceMethod Bundle.tInit0) ∈ Wd := wd_t5 7 rfl rfl
theorem xw_7 : (Cond.code Bundle.tInit0 LibCode.Throwable.Init0.code 1 none) ∈ Wd := wd_t5 8 rfl rfl
theorem xw_8 : (Cond.instanceMethod Bundle.oInit) ∈ Wd := wd_t1 27 rfl rfl
theorem xw_9 : (Cond.code Bundle.oInit ⟨#[0xb1]⟩ 1 none) ∈ Wd := wd_t1 28 rfl rfl
theorem xw_10 : (Cond.methodLink Bundle.tN 1 Bundle.oInit) ∈ Wd := wd_t5 9 rfl rfl
theorem xw_11 : (Cond.methodLink Bundle.tN 27 Bundle.tFill) ∈ Wd := wd_t5 14 rfl rfl
theorem xw_12 : (Cond.methodLink Bundle.tN 202 Bundle.tFill0) ∈ Wd := wd_t5 18 rfl rfl
theorem xw_13 : (Cond.fieldLink Bundle.tN 7 Bundle.tN "cause" "Ljava/lang/Throwable;") ∈ Wd := wd_t5 38 rfl rfl
theorem xw_14 : (Cond.lays Bundle.tN Bundle.tN "cause" "Ljava/lang/Throwable;") ∈ Wd := wd_t4 236 rfl rfl
theorem xw_15 : (Cond.fieldLink Bundle.tN 17 Bundle.tN "stackTrace" Bundle.steD) ∈ Wd := wd_t5 39 rfl rfl
theorem xw_16 : (Cond.lays Bundle.tN Bundle.tN "stackTrace" Bundle.steD) ∈ Wd := wd_t4 238 rfl rfl
theorem xw_17 : (Cond.fieldLink Bundle.tN 24 Bundle.tN "suppressedExceptions" Bundle.listD) ∈ Wd := wd_t5 40 rfl rfl
theorem xw_18 : (Cond.lays Bundle.tN Bundle.tN "suppressedExceptions" Bundle.listD) ∈ Wd := wd_t5 0 rfl rfl
theorem xw_19 : (Cond.fieldLink Bundle.tN 13 Bundle.tN "UNASSIGNED_STACK" Bundle.steD) ∈ Wd := wd_t5 10 rfl rfl
theorem xw_20 : (Cond.fieldLink Bundle.tN 20 Bundle.tN "SUPPRESSED_SENTINEL" Bundle.listD) ∈ Wd := wd_t5 12 rfl rfl
theorem xw_21 : (Cond.lays Bundle.tN Bundle.tN "detailMessage" "Ljava/lang/String;") ∈ Wd := wd_t5 2 rfl rfl
theorem xw_22 : (Cond.instanceMethod (Bundle.initS Bundle.tN)) ∈ Wd := wd_t5 34 rfl rfl
theorem xw_23 : (Cond.code (Bundle.initS Bundle.tN) LibCode.Throwable.InitS.code 2 none) ∈ Wd := wd_t5 35 rfl rfl
theorem xw_24 : (Cond.fieldLink Bundle.tN 31 Bundle.tN "detailMessage" "Ljava/lang/String;") ∈ Wd := wd_t5 37 rfl rfl
theorem xw_25 : (Cond.lays Bundle.tN Bundle.tN "detailMessage" "Ljava/lang/String;") ∈ Wd := wd_t5 2 rfl rfl
theorem xw_26 : (Cond.instanceMethod (Bundle.initS nsE)) ∈ Wd := wd_t5 25 rfl rfl
theorem xw_27 : (Cond.code (Bundle.initS nsE) prog_25_method_4_code 2 none) ∈ Wd := wd_t5 26 rfl rfl
theorem xw_28 : (Cond.methodLink nsE 13 (Bundle.initS "java/lang/RuntimeException")) ∈ Wd := wd_t5 27 rfl rfl
theorem xw_29 : (Cond.instanceMethod (Bundle.initS "java/lang/RuntimeException")) ∈ Wd := wd_t5 28 rfl rfl
theorem xw_31 : (Cond.instanceMethod (Bundle.initS "java/lang/RuntimeException")) ∈ Wd := wd_t5 28 rfl rfl
theorem xw_32 : (Cond.code (Bundle.initS "java/lang/RuntimeException") Bundle.six 2 none) ∈ Wd := wd_t5 29 rfl rfl
theorem xw_33 : (Cond.methodLink "java/lang/RuntimeException" 7 (Bundle.initS "java/lang/Exception")) ∈ Wd := wd_t5 30 rfl rfl
theorem xw_34 : (Cond.instanceMethod (Bundle.initS "java/lang/Exception")) ∈ Wd := wd_t5 31 rfl rfl
theorem xw_36 : (Cond.instanceMethod (Bundle.initS "java/lang/Exception")) ∈ Wd := wd_t5 31 rfl rfl
theorem xw_37 : (Cond.code (Bundle.initS "java/lang/Exception") Bundle.six 2 none) ∈ Wd := wd_t5 32 rfl rfl
theorem xw_38 : (Cond.methodLink "java/lang/Exception" 7 (Bundle.initS Bundle.tN)) ∈ Wd := wd_t5 33 rfl rfl
theorem xw_39 : (Cond.instanceMethod (Bundle.initS Bundle.tN)) ∈ Wd := wd_t5 34 rfl rfl
theorem xw_41 : (Cond.methodLink "DrawnBonds" 124 (Bundle.initS nsE)) ∈ Wd := wd_t5 24 rfl rfl
theorem xw_42 : (Cond.instantiable nsE 6) ∈ Wd := wd_t4 225 rfl rfl
theorem xw_44 : (Cond.selects nsE Bundle.tFill0 Bundle.tFill0) ∈ Wd := wd_t4 233 rfl rfl
theorem xw_45 : (Cond.selects nsE Bundle.tFill Bundle.tFill) ∈ Wd := wd_t4 234 rfl rfl
theorem xw_46 : (Cond.lays nsE Bundle.tN "cause" "Ljava/lang/Throwable;") ∈ Wd := wd_t4 235 rfl rfl
theorem xw_47 : (Cond.lays nsE Bundle.tN "stackTrace" Bundle.steD) ∈ Wd := wd_t4 237 rfl rfl
theorem xw_48 : (Cond.lays nsE Bundle.tN "suppressedExceptions" Bundle.listD) ∈ Wd := wd_t4 239 rfl rfl
theorem xw_49 : (Cond.lays nsE Bundle.tN "detailMessage" "Ljava/lang/String;") ∈ Wd := wd_t5 1 rfl rfl
theorem xw_50 : (Cond.fieldLink Bundle.tN 198 Bundle.tN "backtrace" "Ljava/lang/Object;") ∈ Wd := wd_t5 5 rfl rfl
theorem xw_51 : (Cond.lays Bundle.tN Bundle.tN "backtrace" "Ljava/lang/Object;") ∈ Wd := wd_t5 4 rfl rfl
theorem xw_52 : (Cond.lays nsE Bundle.tN "backtrace" "Ljava/lang/Object;") ∈ Wd := wd_t5 3 rfl rfl
theorem xat_in : ∀ w ∈ (xAtoms 13 prog_25_method_4_code "DrawnBonds" 124 nsE xNames).filter vx_no, w ∈ Wd ∨ w ∈ xoL := by
  have e : (xAtoms 13 prog_25_method_4_code "DrawnBonds" 124 nsE xNames).filter vx_no = [Cond.initialized Bundle.tN, Cond.superclass Bundle.tN "java/lang/Object", Cond.instanceMethod Bundle.tFill, Cond.codeSync Bundle.tFill LibCode.Throwable.Fill.code 1 (some (.object Bundle.tN)), Cond.instanceMethod Bundle.tFill0, Cond.native Bundle.tFill0, Cond.instanceMethod Bundle.tInit0, Cond.code Bundle.tInit0 LibCode.Throwable.Init0.code 1 none, Cond.instanceMethod Bundle.oInit, Cond.code Bundle.oInit ⟨#[0xb1]⟩ 1 none, Cond.methodLink Bundle.tN 1 Bundle.oInit, Cond.methodLink Bundle.tN 27 Bundle.tFill, Cond.methodLink Bundle.tN 202 Bundle.tFill0, Cond.fieldLink Bundle.tN 7 Bundle.tN "cause" "Ljava/lang/Throwable;", Cond.lays Bundle.tN Bundle.tN "cause" "Ljava/lang/Throwable;", Cond.fieldLink Bundle.tN 17 Bundle.tN "stackTrace" Bundle.steD, Cond.lays Bundle.tN Bundle.tN "stackTrace" Bundle.steD, Cond.fieldLink Bundle.tN 24 Bundle.tN "suppressedExceptions" Bundle.listD, Cond.lays Bundle.tN Bundle.tN "suppressedExceptions" Bundle.listD, Cond.fieldLink Bundle.tN 13 Bundle.tN "UNASSIGNED_STACK" Bundle.steD, Cond.fieldLink Bundle.tN 20 Bundle.tN "SUPPRESSED_SENTINEL" Bundle.listD, Cond.lays Bundle.tN Bundle.tN "detailMessage" "Ljava/lang/String;", Cond.instanceMethod (Bundle.initS Bundle.tN), Cond.code (Bundle.initS Bundle.tN) LibCode.Throwable.InitS.code 2 none, Cond.fieldLink Bundle.tN 31 Bundle.tN "detailMessage" "Ljava/lang/String;", Cond.lays Bundle.tN Bundle.tN "detailMessage" "Ljava/lang/String;", Cond.instanceMethod (Bundle.initS nsE), Cond.code (Bundle.initS nsE) prog_25_method_4_code 2 none, Cond.methodLink nsE 13 (Bundle.initS "java/lang/RuntimeException"), Cond.instanceMethod (Bundle.initS "java/lang/RuntimeException"), Cond.declares (Bundle.initS "java/lang/RuntimeException"), Cond.instanceMethod (Bundle.initS "java/lang/RuntimeException"), Cond.code (Bundle.initS "java/lang/RuntimeException") Bundle.six 2 none, Cond.methodLink "java/lang/RuntimeException" 7 (Bundle.initS "java/lang/Exception"), Cond.instanceMethod (Bundle.initS "java/lang/Exception"), Cond.declares (Bundle.initS "java/lang/Exception"), Cond.instanceMethod (Bundle.initS "java/lang/Exception"), Cond.code (Bundle.initS "java/lang/Exception") Bundle.six 2 none, Cond.methodLink "java/lang/Exception" 7 (Bundle.initS Bundle.tN), Cond.instanceMethod (Bundle.initS Bundle.tN), Cond.declares (Bundle.initS Bundle.tN), Cond.methodLink "DrawnBonds" 124 (Bundle.initS nsE), Cond.instantiable nsE 6, Cond.castable nsE nsE, Cond.selects nsE Bundle.tFill0 Bundle.tFill0, Cond.selects nsE Bundle.tFill Bundle.tFill, Cond.lays nsE Bundle.tN "cause" "Ljava/lang/Throwable;", Cond.lays nsE Bundle.tN "stackTrace" Bundle.steD, Cond.lays nsE Bundle.tN "suppressedExceptions" Bundle.listD, Cond.lays nsE Bundle.tN "detailMessage" "Ljava/lang/String;", Cond.fieldLink Bundle.tN 198 Bundle.tN "backtrace" "Ljava/lang/Object;", Cond.lays Bundle.tN Bundle.tN "backtrace" "Ljava/lang/Object;", Cond.lays nsE Bundle.tN "backtrace" "Ljava/lang/Object;"] := by decide +kernel
  rw [e]
  exact List.forall_mem_cons.mpr ⟨Or.inl xw_0, List.forall_mem_cons.mpr ⟨Or.inl xw_1, List.forall_mem_cons.mpr ⟨Or.inl xw_2, List.forall_mem_cons.mpr ⟨Or.inl xw_3, List.forall_mem_cons.mpr ⟨Or.inl xw_4, List.forall_mem_cons.mpr ⟨Or.inl xw_5, List.forall_mem_cons.mpr ⟨Or.inl xw_6, List.forall_mem_cons.mpr ⟨Or.inl xw_7, List.forall_mem_cons.mpr ⟨Or.inl xw_8, List.forall_mem_cons.mpr ⟨Or.inl xw_9, List.forall_mem_cons.mpr ⟨Or.inl xw_10, List.forall_mem_cons.mpr ⟨Or.inl xw_11, List.forall_mem_cons.mpr ⟨Or.inl xw_12, List.forall_mem_cons.mpr ⟨Or.inl xw_13, List.forall_mem_cons.mpr ⟨Or.inl xw_14, List.forall_mem_cons.mpr ⟨Or.inl xw_15, List.forall_mem_cons.mpr ⟨Or.inl xw_16, List.forall_mem_cons.mpr ⟨Or.inl xw_17, List.forall_mem_cons.mpr ⟨Or.inl xw_18, List.forall_mem_cons.mpr ⟨Or.inl xw_19, List.forall_mem_cons.mpr ⟨Or.inl xw_20, List.forall_mem_cons.mpr ⟨Or.inl xw_21, List.forall_mem_cons.mpr ⟨Or.inl xw_22, List.forall_mem_cons.mpr ⟨Or.inl xw_23, List.forall_mem_cons.mpr ⟨Or.inl xw_24, List.forall_mem_cons.mpr ⟨Or.inl xw_25, List.forall_mem_cons.mpr ⟨Or.inl xw_26, List.forall_mem_cons.mpr ⟨Or.inl xw_27, List.forall_mem_cons.mpr ⟨Or.inl xw_28, List.forall_mem_cons.mpr ⟨Or.inl xw_29, List.forall_mem_cons.mpr ⟨Or.inr (List.mem_of_getElem? (i := 0) rfl), List.forall_mem_cons.mpr ⟨Or.inl xw_31, List.forall_mem_cons.mpr ⟨Or.inl xw_32, List.forall_mem_cons.mpr ⟨Or.inl xw_33, List.forall_mem_cons.mpr ⟨Or.inl xw_34, List.forall_mem_cons.mpr ⟨Or.inr (List.mem_of_getElem? (i := 1) rfl), List.forall_mem_cons.mpr ⟨Or.inl xw_36, List.forall_mem_cons.mpr ⟨Or.inl xw_37, List.forall_mem_cons.mpr ⟨Or.inl xw_38, List.forall_mem_cons.mpr ⟨Or.inl xw_39, List.forall_mem_cons.mpr ⟨Or.inr (List.mem_of_getElem? (i := 2) rfl), List.forall_mem_cons.mpr ⟨Or.inl xw_41, List.forall_mem_cons.mpr ⟨Or.inl xw_42, List.forall_mem_cons.mpr ⟨Or.inr (List.mem_of_getElem? (i := 3) rfl), List.forall_mem_cons.mpr ⟨Or.inl xw_44, List.forall_mem_cons.mpr ⟨Or.inl xw_45, List.forall_mem_cons.mpr ⟨Or.inl xw_46, List.forall_mem_cons.mpr ⟨Or.inl xw_47, List.forall_mem_cons.mpr ⟨Or.inl xw_48, List.forall_mem_cons.mpr ⟨Or.inl xw_49, List.forall_mem_cons.mpr ⟨Or.inl xw_50, List.forall_mem_cons.mpr ⟨Or.inl xw_51, List.forall_mem_cons.mpr ⟨Or.inl xw_52, fun _ h => absurd h List.not_mem_nil⟩⟩⟩⟩⟩⟩⟩⟩⟩⟩⟩⟩⟩⟩⟩⟩⟩⟩⟩⟩⟩⟩⟩⟩⟩⟩⟩⟩⟩⟩⟩⟩⟩⟩⟩⟩⟩⟩⟩⟩⟩⟩⟩⟩⟩⟩⟩⟩⟩⟩⟩⟩⟩
theorem xat_good : ∀ w ∈ Cond.classLink "DrawnBonds" 120 nsE :: Cond.initialized nsE :: (xAtoms 13 prog_25_method_4_code "DrawnBonds" 124 nsE xNames).filter vx_no, vx_ot w = true := by decide +kernel
theorem xd_0 : decode prog_25_method_4_code 0 = .ok (.aload_n 0, 1) := by decide +kernel
theorem xd_1 : decode prog_25_method_4_code 1 = .ok (.aload_n 1, 1) := by decide +kernel
theorem xd_2 : decode prog_25_method_4_code 2 = .ok (.invokespecial 13, 3) := by decide +kernel
theorem xd_5 : decode prog_25_method_4_code 5 = .ok (.return_, 1) := by decide +kernel
section LOAN
variable {z : Zt} {cc : ByteArray} {nL : Nat} {rm : Room} {pc : Nat} {lv : List (Nat × Value)} {st : List Value} {M : Mm} {k n : Nat} {K : Option Int32 → Mm → Prop}
theorem r_iretX {own : String} {x : Int32} (hz : Good z own cc nL rm (some .int)) (hq : ∀ o M', K o M' → RetX z o M') (d : decode cc pc = .ok (.ireturn, 1)) (h1 : k ≤ rm.cells) (h2 : n ≤ rm.slots) : Sim z pc lv [.int x] M k n (some (some x, M)) K := by
  obtain ⟨g, p, l, e, R, s, m, args, below, meth, c, nLq, Q⟩ := z
  intro v0 M0 hr hK H locs ls hH hB hL hl
  cases hr
  obtain ⟨hx, hb, hml, hown, hts, hKN, hlk, -, hRm, hrt⟩ := hz
  subst hRm
  have hQ : Q = _ := hq (some x) M hK
  subst hQ
  refine W.widen (k := R.cells) (n := R.slots) h1 h2 (vx_ret ?_)
  exact W.iret (v := x) hx hb hrt (fun t ht _ => ⟨rfl, by rw [ht]; exact hH, fun q hq => by rw [ht]; exact hB q hq⟩) hL d hlk
theorem r_thr {is j : Nat} {tx : String} (hz : Good z "DrawnBonds" cc nL rm (some .int)) (hX : GoodX z) (hq : ∀ o M', K o M' → RetX z o M') (hstr : srL[j]? = some ("DrawnBonds", is, tx))
    (d0 : decode cc pc = .ok (.new 120, 3)) (d3 : decode cc (pc + 3) = .ok (.dup, 1)) (d4 : decode cc (pc + 4) = .ok (.ldc is, 2)) (d6 : decode cc (pc + 6) = .ok (.invokespecial 124, 3)) (d9 : decode cc (pc + 9) = .ok (.athrow, 1))
    (hf : 5 < rm.frames) (hlo : 82 ≤ rm.locals) (h1 : k + 1 ≤ rm.cells) (h2 : n + 6 ≤ rm.slots) : Sim z pc lv [] M k n (some (none, sN M 99 0)) K := by
  obtain ⟨g, p, l, e, R, s, m, args, below, meth, c, nLq, Q⟩ := z
  intro v0 M0 hr hK H locs ls hH hB hL hl
  cases hr
  obtain ⟨hx, hb, hml, hown, hts, hKN, hlk, hnl, hRm, hrt⟩ := hz
  subst hRm
  have hQ : Q = _ := hq none (sN M 99 0) hK
  subst hQ
  obtain ⟨hXZ, hst, htab⟩ := hX
  intro T0 hT0 X0
  have hS : va_S (fun a => g.2.2.1 ≤ a) s.heap H locs := ⟨by rw [← hT0]; exact X0.same.2.1, fun q _ hn => hB q (Nat.not_le.mp hn), hL⟩
  have go : W p l e R s m args below meth c H locs k n (vx_MQ below (Qx g none (sN M 99 0)) (XCx g none (sN M 99 0)) args s R.cells R.slots (fun q => g.2.2.1 ≤ q)) (F0 m pc ls []) := by
    refine x_make (cls := nsE) (own := "DrawnBonds") (names := xNames) (ix := 13) (rx := prog_25_method_4_code) xd_0 xd_1 xd_2 xd_5 hx hb hst hown (by decide +kernel) (by decide +kernel) (hts _ wm_4_224) (hts _ wm_1_20) (hKN.2.2.2.1 j _ hstr) (fun w hw => (xat_in w hw).elim (fun h => hts w h) (fun h => va_Nw.use (xo_tab w h) (hXZ.2.2 w h))) xat_good hXZ.1 hXZ.2.1 hS (by rw [hl.1, hml, hnl]) d0 d3 d4 d6 hf (by show 0 + (13 * (2 + 1) + 43) ≤ _; omega) h1 h2 (fun H1 ce z1 o1 e1 hv1 hc1 => ?_)
    refine vx_athrow hx hb d9 ?_
    have hT : H.size = gT M := hH.1
    have hN : HH g (sN M 99 0) H1 := by
      refine HH_new hH z1 o1 ?_
      have eK : gK (sN M 99 0) (gT M) = 99 := by rw [gK_sN, if_pos rfl]
      refine ⟨fun q hq => ?_, fun hq => ?_, fun hq => ?_, fun hq => ?_⟩
      · rw [eK] at hq; have := vw_lt hq; omega
      · rw [eK] at hq; omega
      · rw [eK] at hq; omega
      · rw [eK] at hq; omega
    exact vx_out (fun x hx => (htab x hx).elim) hlk e1 hv1 hc1 (fun t ht _ => ⟨rfl, rfl, by rw [ht]; exact hN, fun q hq => by rw [ht, o1 q (by rw [hT]; exact Nat.lt_of_lt_of_le hq hH.2.1)]; exact hB q hq⟩) hL h1 h2
  exact go T0 hT0 X0
end LOAN
theorem dX7_loan_0 : decode cX7_loan 0 = .ok (.aload_n 0, 1) := by decide +kernel
theorem dX7_loan_1 : decode cX7_loan 1 = .ok (.iload_n 1, 1) := by decide +kernel
theorem dX7_loan_2 : decode cX7_loan 2 = .ok (.invokevirtual 116, 3) := by decide +kernel
theorem dX7_loan_5 : decode cX7_loan 5 = .ok (.ifCond .ne 13, 3) := by decide +kernel
theorem dX7_loan_8 : decode cX7_loan 8 = .ok (.new 120, 3) := by decide +kernel
theorem dX7_loan_11 : decode cX7_loan 11 = .ok (.dup, 1) := by decide +kernel
theorem dX7_loan_12 : decode cX7_loan 12 = .ok (.ldc 122, 2) := by decide +kernel
theorem dX7_loan_14 : decode cX7_loan 14 = .ok (.invokespecial 124, 3) := by decide +kernel
theorem dX7_loan_17 : decode cX7_loan 17 = .ok (.athrow, 1) := by decide +kernel
theorem dX7_loan_18 : decode cX7_loan 18 = .ok (.iload_n 2, 1) := by decide +kernel
theorem dX7_loan_19 : decode cX7_loan 19 = .ok (.tableswitch 157 0 9 #[53, 63, 73, 83, 93, 103, 113, 123, 133, 143], 53) := by decide +kernel
theorem dX7_loan_72 : decode cX7_loan 72 = .ok (.aload_n 0, 1) := by decide +kernel
theorem dX7_loan_73 : decode cX7_loan 73 = .ok (.getfield 10, 3) := by decide +kernel
theorem dX7_loan_76 : decode cX7_loan 76 = .ok (.getfield 127, 3) := by decide +kernel
theorem dX7_loan_79 : decode cX7_loan 79 = .ok (.iload_n 1, 1) := by decide +kernel
theorem dX7_loan_80 : decode cX7_loan 80 = .ok (.iaload, 1) := by decide +kernel
theorem dX7_loan_81 : decode cX7_loan 81 = .ok (.ireturn, 1) := by decide +kernel
theorem dX7_loan_82 : decode cX7_loan 82 = .ok (.aload_n 0, 1) := by decide +kernel
theorem dX7_loan_83 : decode cX7_loan 83 = .ok (.getfield 10, 3) := by decide +kernel
theorem dX7_loan_86 : decode cX7_loan 86 = .ok (.getfield 131, 3) := by decide +kernel
theorem dX7_loan_89 : decode cX7_loan 89 = .ok (.iload_n 1, 1) := by decide +kernel
theorem dX7_loan_90 : decode cX7_loan 90 = .ok (.iaload, 1) := by decide +kernel
theorem dX7_loan_91 : decode cX7_loan 91 = .ok (.ireturn, 1) := by decide +kernel
theorem dX7_loan_92 : decode cX7_loan 92 = .ok (.aload_n 0, 1) := by decide +kernel
theorem dX7_loan_93 : decode cX7_loan 93 = .ok (.getfield 10, 3) := by decide +kernel
theorem dX7_loan_96 : decode cX7_loan 96 = .ok (.getfield 134, 3) := by decide +kernel
theorem dX7_loan_99 : decode cX7_loan 99 = .ok (.iload_n 1, 1) := by decide +kernel
theorem dX7_loan_100 : decode cX7_loan 100 = .ok (.iaload, 1) := by decide +kernel
theorem dX7_loan_101 : decode cX7_loan 101 = .ok (.ireturn, 1) := by decide +kernel
theorem dX7_loan_102 : decode cX7_loan 102 = .ok (.aload_n 0, 1) := by decide +kernel
theorem dX7_loan_103 : decode cX7_loan 103 = .ok (.getfield 10, 3) := by decide +kernel
theorem dX7_loan_106 : decode cX7_loan 106 = .ok (.getfield 137, 3) := by decide +kernel
theorem dX7_loan_109 : decode cX7_loan 109 = .ok (.iload_n 1, 1) := by decide +kernel
theorem dX7_loan_110 : decode cX7_loan 110 = .ok (.iaload, 1) := by decide +kernel
theorem dX7_loan_111 : decode cX7_loan 111 = .ok (.ireturn, 1) := by decide +kernel
theorem dX7_loan_112 : decode cX7_loan 112 = .ok (.aload_n 0, 1) := by decide +kernel
theorem dX7_loan_113 : decode cX7_loan 113 = .ok (.getfield 10, 3) := by decide +kernel
theorem dX7_loan_116 : decode cX7_loan 116 = .ok (.getfield 139, 3) := by decide +kernel
theorem dX7_loan_119 : decode cX7_loan 119 = .ok (.iload_n 1, 1) := by decide +kernel
theorem dX7_loan_120 : decode cX7_loan 120 = .ok (.iaload, 1) := by decide +kernel
theorem dX7_loan_121 : decode cX7_loan 121 = .ok (.ireturn, 1) := by decide +kernel
theorem dX7_loan_122 : decode cX7_loan 122 = .ok (.aload_n 0, 1) := by decide +kernel
theorem dX7_loan_123 : decode cX7_loan 123 = .ok (.getfield 10, 3) := by decide +kernel
theorem dX7_loan_126 : decode cX7_loan 126 = .ok (.getfield 142, 3) := by decide +kernel
theorem dX7_loan_129 : decode cX7_loan 129 = .ok (.iload_n 1, 1) := by decide +kernel
theorem dX7_loan_130 : decode cX7_loan 130 = .ok (.iaload, 1) := by decide +kernel
theorem dX7_loan_131 : decode cX7_loan 131 = .ok (.ireturn, 1) := by decide +kernel
theorem dX7_loan_132 : decode cX7_loan 132 = .ok (.aload_n 0, 1) := by decide +kernel
theorem dX7_loan_133 : decode cX7_loan 133 = .ok (.getfield 10, 3) := by decide +kernel
theorem dX7_loan_136 : decode cX7_loan 136 = .ok (.getfield 145, 3) := by decide +kernel
theorem dX7_loan_139 : decode cX7_loan 139 = .ok (.iload_n 1, 1) := by decide +kernel
theorem dX7_loan_140 : decode cX7_loan 140 = .ok (.iaload, 1) := by decide +kernel
theorem dX7_loan_141 : decode cX7_loan 141 = .ok (.ireturn, 1) := by decide +kernel
theorem dX7_loan_142 : decode cX7_loan 142 = .ok (.aload_n 0, 1) := by decide +kernel
theorem dX7_loan_143 : decode cX7_loan 143 = .ok (.getfield 19, 3) := by decide +kernel
theorem dX7_loan_146 : decode cX7_loan 146 = .ok (.getfield 148, 3) := by decide +kernel
theorem dX7_loan_149 : decode cX7_loan 149 = .ok (.iload_n 1, 1) := by decide +kernel
theorem dX7_loan_150 : decode cX7_loan 150 = .ok (.iaload, 1) := by decide +kernel
theorem dX7_loan_151 : decode cX7_loan 151 = .ok (.ireturn, 1) := by decide +kernel
theorem dX7_loan_152 : decode cX7_loan 152 = .ok (.aload_n 0, 1) := by decide +kernel
theorem dX7_loan_153 : decode cX7_loan 153 = .ok (.getfield 19, 3) := by decide +kernel
theorem dX7_loan_156 : decode cX7_loan 156 = .ok (.getfield 151, 3) := by decide +kernel
theorem dX7_loan_159 : decode cX7_loan 159 = .ok (.iload_n 1, 1) := by decide +kernel
theorem dX7_loan_160 : decode cX7_loan 160 = .ok (.iaload, 1) := by decide +kernel
theorem dX7_loan_161 : decode cX7_loan 161 = .ok (.ireturn, 1) := by decide +kernel
theorem dX7_loan_162 : decode cX7_loan 162 = .ok (.aload_n 0, 1) := by decide +kernel
theorem dX7_loan_163 : decode cX7_loan 163 = .ok (.getfield 19, 3) := by decide +kernel
theorem dX7_loan_166 : decode cX7_loan 166 = .ok (.aload_n 0, 1) := by decide +kernel
theorem dX7_loan_167 : decode cX7_loan 167 = .ok (.getfield 10, 3) := by decide +kernel
theorem dX7_loan_170 : decode cX7_loan 170 = .ok (.iload_n 1, 1) := by decide +kernel
theorem dX7_loan_171 : decode cX7_loan 171 = .ok (.iconst 0, 1) := by decide +kernel
theorem dX7_loan_172 : decode cX7_loan 172 = .ok (.invokevirtual 112, 3) := by decide +kernel
theorem dX7_loan_175 : decode cX7_loan 175 = .ok (.ireturn, 1) := by decide +kernel
theorem dX7_loan_176 : decode cX7_loan 176 = .ok (.new 120, 3) := by decide +kernel
theorem dX7_loan_179 : decode cX7_loan 179 = .ok (.dup, 1) := by decide +kernel
theorem dX7_loan_180 : decode cX7_loan 180 = .ok (.ldc 154, 2) := by decide +kernel
theorem dX7_loan_182 : decode cX7_loan 182 = .ok (.invokespecial 124, 3) := by decide +kernel
theorem dX7_loan_185 : decode cX7_loan 185 = .ok (.athrow, 1) := by decide +kernel
theorem dL_loan_0 : decode cL_loan 0 = .ok (.aload_n 3, 1) := by decide +kernel
theorem dL_loan_1 : decode cL_loan 1 = .ok (.iconst 0, 1) := by decide +kernel
theorem dL_loan_2 : decode cL_loan 2 = .ok (.aload_n 0, 1) := by decide +kernel
theorem dL_loan_3 : decode cL_loan 3 = .ok (.iload_n 1, 1) := by decide +kernel
theorem dL_loan_4 : decode cL_loan 4 = .ok (.iload_n 2, 1) := by decide +kernel
theorem dL_loan_5 : decode cL_loan 5 = .ok (.invokevirtual 7, 3) := by decide +kernel
theorem dL_loan_8 : decode cL_loan 8 = .ok (.i2l, 1) := by decide +kernel
theorem dL_loan_9 : decode cL_loan 9 = .ok (.lastore, 1) := by decide +kernel
theorem dL_loan_10 : decode cL_loan 10 = .ok (.goto 7, 3) := by decide +kernel
theorem dL_loan_13 : decode cL_loan 13 = .ok (.astore 4, 2) := by decide +kernel
theorem dL_loan_15 : decode cL_loan 15 = .ok (.iconst 1, 1) := by decide +kernel
theorem dL_loan_16 : decode cL_loan 16 = .ok (.ireturn, 1) := by decide +kernel
theorem dL_loan_17 : decode cL_loan 17 = .ok (.iconst 0, 1) := by decide +kernel
theorem dL_loan_18 : decode cL_loan 18 = .ok (.ireturn, 1) := by decide +kernel
abbrev rX7_loan : Room := { frames := 6, cells := 1, slots := 6, locals := 82 }
theorem cal_X7_loan : CalOk yX7_loan cX7_loan 3 (some .int) 2 := ⟨wm_4_223, wm_1_1, by decide, by decide, by decide +kernel⟩
def f_X7_loan (p0 : Nat) (p1 : Int32) (p2 : Int32) (M : Mm) : Option (Option Int32 × Mm) :=
  ck (gK M p0 = 7) (bd (f_X7_isLoan p0 p1 M) fun v2 M1 =>
  (if ¬ v2 = 0 then
    (if p2 = (0 : Int32) then
      ck (gK M1 p0 = 7) (bR (gR M1 p0 0) fun q3 => ck (gK M1 q3 = 6) (bR (gR M1 q3 6) fun q4 => ck (gK M1 q4 = 10 ∧ inb p1 (gN M1 q4)) (some (some (gI M1 q4 (p1).toNatClampNeg), M1))))
    else
    (if p2 = (1 : Int32) then
      ck (gK M1 p0 = 7) (bR (gR M1 p0 0) fun q5 => ck (gK M1 q5 = 6) (bR (gR M1 q5 7) fun q6 => ck (gK M1 q6 = 10 ∧ inb p1 (gN M1 q6)) (some (some (gI M1 q6 (p1).toNatClampNeg), M1))))
    else
    (if p2 = (2 : Int32) then
      ck (gK M1 p0 = 7) (bR (gR M1 p0 0) fun q7 => ck (gK M1 q7 = 6) (bR (gR M1 q7 8) fun q8 => ck (gK M1 q8 = 10 ∧ inb p1 (gN M1 q8)) (some (some (gI M1 q8 (p1).toNatClampNeg), M1))))
    else
    (if p2 = (3 : Int32) then
      ck (gK M1 p0 = 7) (bR (gR M1 p0 0) fun q9 => ck (gK M1 q9 = 6) (bR (gR M1 q9 9) fun q10 => ck (gK M1 q10 = 10 ∧ inb p1 (gN M1 q10)) (some (some (gI M1 q10 (p1).toNatClampNeg), M1))))
    else
    (if p2 = (4 : Int32) then
      ck (gK M1 p0 = 7) (bR (gR M1 p0 0) fun q11 => ck (gK M1 q11 = 6) (bR (gR M1 q11 10) fun q12 => ck (gK M1 q12 = 10 ∧ inb p1 (gN M1 q12)) (some (some (gI M1 q12 (p1).toNatClampNeg), M1))))
    else
    (if p2 = (5 : Int32) then
      ck (gK M1 p0 = 7) (bR (gR M1 p0 0) fun q13 => ck (gK M1 q13 = 6) (bR (gR M1 q13 11) fun q14 => ck (gK M1 q14 = 10 ∧ inb p1 (gN M1 q14)) (some (some (gI M1 q14 (p1).toNatClampNeg), M1))))
    else
    (if p2 = (6 : Int32) then
      ck (gK M1 p0 = 7) (bR (gR M1 p0 0) fun q15 => ck (gK M1 q15 = 6) (bR (gR M1 q15 12) fun q16 => ck (gK M1 q16 = 10 ∧ inb p1 (gN M1 q16)) (some (some (gI M1 q16 (p1).toNatClampNeg), M1))))
    else
    (if p2 = (7 : Int32) then
      ck (gK M1 p0 = 7) (bR (gR M1 p0 1) fun q17 => ck (gK M1 q17 = 5) (bR (gR M1 q17 2) fun q18 => ck (gK M1 q18 = 10 ∧ inb p1 (gN M1 q18)) (some (some (gI M1 q18 (p1).toNatClampNeg), M1))))
    else
    (if p2 = (8 : Int32) then
      ck (gK M1 p0 = 7) (bR (gR M1 p0 1) fun q19 => ck (gK M1 q19 = 5) (bR (gR M1 q19 3) fun q20 => ck (gK M1 q20 = 10 ∧ inb p1 (gN M1 q20)) (some (some (gI M1 q20 (p1).toNatClampNeg), M1))))
    else
    (if p2 = (9 : Int32) then
      ck (gK M1 p0 = 7) (bR (gR M1 p0 1) fun q21 => ck (gK M1 p0 = 7) (bR (gR M1 p0 0) fun q22 => ck (gK M1 q21 = 5) (bd (f_X5_countBonds q21 q22 p1 (0 : Int32) M1) fun v24 M23 =>
      some (some v24, M23))))
    else
      some (none, sN M1 99 0)))))))))))
  else
    some (none, sN M1 99 0)))
set_option maxRecDepth 20000 in
set_option maxHeartbeats 4000000 in
theorem t_X7_loan (p0 : Nat) (p1 : Int32) (p2 : Int32) (M : Mm) (x : Option Int32) (M' : Mm) (h : f_X7_loan p0 p1 p2 M = some (x, M')) : CtrX yX7_loan cX7_loan 3 (some .int) rX7_loan (fun _ => [.ref p0, .int p1, .int p2]) M x M' := by
  refine ctrx_of (by decide) (fun _ => Nat.le_of_ble_eq_true rfl) (fun z hz hX hq => ?_)
  have key : Sim z 0 [(0, .ref p0), (1, .int p1), (2, .int p2)] [] M 0 0 (f_X7_loan p0 p1 p2 M) (fun a b => a = x ∧ b = M') := by
    have hq : ∀ o M'', (fun a b => a = x ∧ b = M') o M'' → RetX z o M'' := fun a b e => by rw [e.1, e.2]; exact hq
    unfold f_X7_loan
    refine r_aload_n hz dX7_loan_0 0 rfl ?_
    refine r_iload_n hz dX7_loan_1 1 rfl ?_
    refine r_callVi (As := fun _ => [.int p1]) cl7 hz (fun _ _ h => t_X7_isLoan _ _ _ _ _ h) cal_X7_isLoan dX7_loan_2 wm_3_149 wm_3_151 wm_p_25 rfl rfl (Nat.le_of_ble_eq_true rfl) ⟨(Nat.le_of_ble_eq_true rfl), (Nat.le_of_ble_eq_true rfl)⟩ ⟨(Nat.le_of_ble_eq_true rfl), (Nat.le_of_ble_eq_true rfl)⟩ (fun v2 M1 => ?_)
    refine r_if_ne (tgt := 18) hz dX7_loan_5 rfl ?_ ?_
    · refine r_iload_n hz dX7_loan_18 2 rfl ?_
      refine r_swc (v := 0) (tgt := 72) hz dX7_loan_19 (by decide) (by decide) rfl rfl ?_ (fun n0 => ?_)
      · refine r_aload_n hz dX7_loan_72 0 rfl ?_
        refine r_getR (j := 0) cl7 hz dX7_loan_73 (by decide) wm_2_104 rfl (fun q3 => ?_)
        refine r_getR (j := 6) cl6 hz dX7_loan_76 (by decide) wm_1_57 rfl (fun q4 => ?_)
        refine r_iload_n hz dX7_loan_79 1 rfl ?_
        refine r_iald hz dX7_loan_80 ?_
        exact r_iretX hz hq dX7_loan_81 (Nat.le_of_ble_eq_true rfl) (Nat.le_of_ble_eq_true rfl)
      refine r_swc (v := 1) (tgt := 82) hz dX7_loan_19 (by decide) (by decide) rfl rfl ?_ (fun n1 => ?_)
      · refine r_aload_n hz dX7_loan_82 0 rfl ?_
        refine r_getR (j := 0) cl7 hz dX7_loan_83 (by decide) wm_2_104 rfl (fun q5 => ?_)
        refine r_getR (j := 7) cl6 hz dX7_loan_86 (by decide) wm_1_62 rfl (fun q6 => ?_)
        refine r_iload_n hz dX7_loan_89 1 rfl ?_
        refine r_iald hz dX7_loan_90 ?_
        exact r_iretX hz hq dX7_loan_91 (Nat.le_of_ble_eq_true rfl) (Nat.le_of_ble_eq_true rfl)
      refine r_swc (v := 2) (tgt := 92) hz dX7_loan_19 (by decide) (by decide) rfl rfl ?_ (fun n2 => ?_)
      · refine r_aload_n hz dX7_loan_92 0 rfl ?_
        refine r_getR (j := 0) cl7 hz dX7_loan_93 (by decide) wm_2_104 rfl (fun q7 => ?_)
        refine r_getR (j := 8) cl6 hz dX7_loan_96 (by decide) wm_1_66 rfl (fun q8 => ?_)
        refine r_iload_n hz dX7_loan_99 1 rfl ?_
        refine r_iald hz dX7_loan_100 ?_
        exact r_iretX hz hq dX7_loan_101 (Nat.le_of_ble_eq_true rfl) (Nat.le_of_ble_eq_true rfl)
      refine r_swc (v := 3) (tgt := 102) hz dX7_loan_19 (by decide) (by decide) rfl rfl ?_ (fun n3 => ?_)
      · refine r_aload_n hz dX7_loan_102 0 rfl ?_
        refine r_getR (j := 0) cl7 hz dX7_loan_103 (by decide) wm_2_104 rfl (fun q9 => ?_)
        refine r_getR (j := 9) cl6 hz dX7_loan_106 (by decide) wm_1_71 rfl (fun q10 => ?_)
        refine r_iload_n hz dX7_loan_109 1 rfl ?_
        refine r_iald hz dX7_loan_110 ?_
        exact r_iretX hz hq dX7_loan_111 (Nat.le_of_ble_eq_true rfl) (Nat.le_of_ble_eq_true rfl)
      refine r_swc (v := 4) (tgt := 112) hz dX7_loan_19 (by decide) (by decide) rfl rfl ?_ (fun n4 => ?_)
      · refine r_aload_n hz dX7_loan_112 0 rfl ?_
        refine r_getR (j := 0) cl7 hz dX7_loan_113 (by decide) wm_2_104 rfl (fun q11 => ?_)
        refine r_getR (j := 10) cl6 hz dX7_loan_116 (by decide) wm_1_75 rfl (fun q12 => ?_)
        refine r_iload_n hz dX7_loan_119 1 rfl ?_
        refine r_iald hz dX7_loan_120 ?_
        exact r_iretX hz hq dX7_loan_121 (Nat.le_of_ble_eq_true rfl) (Nat.le_of_ble_eq_true rfl)
      refine r_swc (v := 5) (tgt := 122) hz dX7_loan_19 (by decide) (by decide) rfl rfl ?_ (fun n5 => ?_)
      · refine r_aload_n hz dX7_loan_122 0 rfl ?_
        refine r_getR (j := 0) cl7 hz dX7_loan_123 (by decide) wm_2_104 rfl (fun q13 => ?_)
        refine r_getR (j := 11) cl6 hz dX7_loan_126 (by decide) wm_1_79 rfl (fun q14 => ?_)
        refine r_iload_n hz dX7_loan_129 1 rfl ?_
        refine r_iald hz dX7_loan_130 ?_
        exact r_iretX hz hq dX7_loan_131 (Nat.le_of_ble_eq_true rfl) (Nat.le_of_ble_eq_true rfl)
      refine r_swc (v := 6) (tgt := 132) hz dX7_loan_19 (by decide) (by decide) rfl rfl ?_ (fun n6 => ?_)
      · refine r_aload_n hz dX7_loan_132 0 rfl ?_
        refine r_getR (j := 0) cl7 hz dX7_loan_133 (by decide) wm_2_104 rfl (fun q15 => ?_)
        refine r_getR (j := 12) cl6 hz dX7_loan_136 (by decide) wm_1_82 rfl (fun q16 => ?_)
        refine r_iload_n hz dX7_loan_139 1 rfl ?_
        refine r_iald hz dX7_loan_140 ?_
        exact r_iretX hz hq dX7_loan_141 (Nat.le_of_ble_eq_true rfl) (Nat.le_of_ble_eq_true rfl)
      refine r_swc (v := 7) (tgt := 142) hz dX7_loan_19 (by decide) (by decide) rfl rfl ?_ (fun n7 => ?_)
      · refine r_aload_n hz dX7_loan_142 0 rfl ?_
        refine r_getR (j := 1) cl7 hz dX7_loan_143 (by decide) wm_2_105 rfl (fun q17 => ?_)
        refine r_getR (j := 2) cl5 hz dX7_loan_146 (by decide) wm_1_146 rfl (fun q18 => ?_)
        refine r_iload_n hz dX7_loan_149 1 rfl ?_
        refine r_iald hz dX7_loan_150 ?_
        exact r_iretX hz hq dX7_loan_151 (Nat.le_of_ble_eq_true rfl) (Nat.le_of_ble_eq_true rfl)
      refine r_swc (v := 8) (tgt := 152) hz dX7_loan_19 (by decide) (by decide) rfl rfl ?_ (fun n8 => ?_)
      · refine r_aload_n hz dX7_loan_152 0 rfl ?_
        refine r_getR (j := 1) cl7 hz dX7_loan_153 (by decide) wm_2_105 rfl (fun q19 => ?_)
        refine r_getR (j := 3) cl5 hz dX7_loan_156 (by decide) wm_1_149 rfl (fun q20 => ?_)
        refine r_iload_n hz dX7_loan_159 1 rfl ?_
        refine r_iald hz dX7_loan_160 ?_
        exact r_iretX hz hq dX7_loan_161 (Nat.le_of_ble_eq_true rfl) (Nat.le_of_ble_eq_true rfl)
      refine r_swc (v := 9) (tgt := 162) hz dX7_loan_19 (by decide) (by decide) rfl rfl ?_ (fun n9 => ?_)
      · refine r_aload_n hz dX7_loan_162 0 rfl ?_
        refine r_getR (j := 1) cl7 hz dX7_loan_163 (by decide) wm_2_105 rfl (fun q21 => ?_)
        refine r_aload_n hz dX7_loan_166 0 rfl ?_
        refine r_getR (j := 0) cl7 hz dX7_loan_167 (by decide) wm_2_104 rfl (fun q22 => ?_)
        refine r_iload_n hz dX7_loan_170 1 rfl ?_
        refine r_iconst (v := 0) hz dX7_loan_171 rfl ?_
        refine r_callVi (As := fun _ => [.ref q22, .int p1, .int (0 : Int32)]) cl5 hz (fun _ _ h => t_X5_countBonds _ _ _ _ _ _ _ h) cal_X5_countBonds dX7_loan_172 wm_3_132 wm_3_133 wm_3_134 rfl rfl (Nat.le_of_ble_eq_true rfl) ⟨(Nat.le_of_ble_eq_true rfl), (Nat.le_of_ble_eq_true rfl)⟩ ⟨(Nat.le_of_ble_eq_true rfl), (Nat.le_of_ble_eq_true rfl)⟩ (fun v24 M23 => ?_)
        exact r_iretX hz hq dX7_loan_175 (Nat.le_of_ble_eq_true rfl) (Nat.le_of_ble_eq_true rfl)
      refine r_swd (tgt := 176) hz dX7_loan_19 (by have n0q := lv_neT n0 (show (0 : Int32).toInt = 0 from rfl); have n1q := lv_neT n1 (show (1 : Int32).toInt = 1 from rfl); have n2q := lv_neT n2 (show (2 : Int32).toInt = 2 from rfl); have n3q := lv_neT n3 (show (3 : Int32).toInt = 3 from rfl); have n4q := lv_neT n4 (show (4 : Int32).toInt = 4 from rfl); have n5q := lv_neT n5 (show (5 : Int32).toInt = 5 from rfl); have n6q := lv_neT n6 (show (6 : Int32).toInt = 6 from rfl); have n7q := lv_neT n7 (show (7 : Int32).toInt = 7 from rfl); have n8q := lv_neT n8 (show (8 : Int32).toInt = 8 from rfl); have n9q := lv_neT n9 (show (9 : Int32).toInt = 9 from rfl); omega) rfl ?_
      exact r_thr (j := 15) hz hX hq rfl dX7_loan_176 dX7_loan_179 dX7_loan_180 dX7_loan_182 dX7_loan_185 (Nat.le_of_ble_eq_true rfl) (Nat.le_of_ble_eq_true rfl) (Nat.le_of_ble_eq_true rfl) (Nat.le_of_ble_eq_true rfl)
    · exact r_thr (j := 14) hz hX hq rfl dX7_loan_8 dX7_loan_11 dX7_loan_12 dX7_loan_14 dX7_loan_17 (Nat.le_of_ble_eq_true rfl) (Nat.le_of_ble_eq_true rfl) (Nat.le_of_ble_eq_true rfl) (Nat.le_of_ble_eq_true rfl)
  exact key x M' h ⟨rfl, rfl⟩
