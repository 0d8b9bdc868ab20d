/-! contracts -/
def Po (g : Gd) (As : List Value) (M : Mm) : Array Value → State → Prop := fun a U => a = As.toArray ∧ HH g M U.heap ∧ KN g U
def Qo (g : Gd) (v : Option Value) (M : Mm) : Array Value → State → Outcome → State → Prop := fun _ st o t => o = .returned v ∧ HH g M t.heap ∧ ∀ q : Nat, q < g.2.2.1 → t.heap[q]? = st.heap[q]?
/-- a method, called with these values in this memory, answers v and leaves that memory -/
def Ctr (y : MethodName) (cc : ByteArray) (maxL : Nat) (ret : Option FieldType) (rm : Room) (As : Gd → List Value) (M : Mm) (v : Option Value) (M' : Mm) : Prop :=
  ∀ (l : Launch) (g : Gd), Met l y (Cond.code y cc maxL ret :: Wd) rm (Po g (As g) M) (Qo g v M') rm.cells rm.slots (fun q => g.2.2.1 ≤ q)
/-- the end of the body that z stands in is this answer, with this memory -/
def RetOk (z : Zt) (v : Option Value) (M' : Mm) : Prop := match z with
  | (g, _, _, _, R, s, _, args, below, _, _, _, Q) => Q = MQ below (Qo g v M') args s R.cells R.slots (fun q => g.2.2.1 ≤ q)
def Ret {α : Type} (z : Zt) (vf : α → Option Value) (K : α → Mm → Prop) : Prop := ∀ x M', K x M' → RetOk z (vf x) M'
def zI (x : Int32) : Option Value := some (.int x)
def zL (x : Int64) : Option Value := some (.long x)
def zU (_ : Unit) : Option Value := none
def zA (x : Nat) : Option Value := some (.ref x)
theorem po_blind {g : Gd} {As : List Value} {M : Mm} : FrameBlind (Po g As M) := fun a _ f mk h => ⟨h.1, h.2.1, KN.call f mk a h.2.2⟩
theorem Met.ofWF {l : Launch} {y : MethodName} {ws ws' : List Cond} {rm : Room} {Pc : Array Value → State → Prop} {Qc : Array Value → State → Outcome → State → Prop} {mc ms : Nat} {free : Addr → Prop} {cc : ByteArray} {maxL : Nat} {ret : Option FieldType}
    (hy : plainFor y = true) (hw : ws = Cond.code y cc maxL ret :: ws')
    (body : ∀ p e s m args below meth c s₁, BodyLoose p l y (headSpec ws rm) cc maxL ret e s m args below meth c s₁ → c.maxLocals = maxL → Pc args s →
      W p l e (headSpec ws rm).room s m args below meth c s.heap [] 0 0 (MQ below Qc args s mc ms free) (entryFrame m args maxL)) : Met l y ws rm Pc Qc mc ms free := by
  refine MetFree.of_bodySF (code := cc) (maxLocals := maxL) (ret := ret) hy ?_ ?_
  · intro args s m h hn
    obtain ⟨meth, c, h1, h2, h3, h4, h5, h6, -, -⟩ := Cond.code_spec hn (atoms_spec (ws := ws) h _ (by rw [hw]; exact List.mem_cons_self))
    exact ⟨meth, c, h1, h2, h3, h4, h5, h6⟩
  · intro p e s m args below meth c s₁ B hml hP _
    have hh0 : s₁.heap = s.heap := by rw [B.state]; rfl
    obtain ⟨t, a1, o, b1, b2, b3⟩ := body p e s m args below meth c s₁ B hml hP s₁ hh0 (Stand.of_body B)
    exact ⟨t, o, a1, b1, b2, ⟨b3.1, b3.2⟩⟩
theorem ctr_of {y : MethodName} {cc : ByteArray} {maxL : Nat} {ret : Option FieldType} {rm : Room} {As : Gd → List Value} {M : Mm} {v : Option Value} {M' : Mm} (hy : plainFor y = true) (hlen : ∀ g, (lg_sl (As g)).length ≤ maxL)
    (body : ∀ z : Zt, Good z y.cls cc maxL rm ret → (y.name = "<init>" → z.2.2.2.2.2.2.2.2.2.1.name = "<init>") → RetOk z v M' → Cfg z 0 (lv_args 0 (As z.1)) [] M 0 0) : Ctr y cc maxL ret rm As M v M' := by
  intro l g
  refine Met.ofWF (cc := cc) (maxL := maxL) (ret := ret) hy rfl ?_
  intro p e s m args below meth c s₁ B hml hv
  obtain ⟨rfl, hH, hKN⟩ := hv
  have hts := atoms_spec (ws := Cond.code y cc maxL ret :: Wd) B.pre
  have hown : s.vm.findClass y.cls = some m.cls := findClass_of_methodNamed B.named
  have hl := lv_entry (As g) (n := maxL) (hlen g)
  rw [lg_entry_eq]
  have hb := body (g, p, l, e, rm, s, m, (As g).toArray, below, meth, c, maxL, MQ below (Qo g v M') (As g).toArray s rm.cells rm.slots (fun q => g.2.2.1 ≤ q)) ⟨B.exec, B.bytes, hml, hown, fun w hw => hts w (List.mem_cons_of_mem _ hw), hKN, B.notSynchronized, rfl, rfl, B.returns⟩ (fun hn => by rw [← hn]; exact (name_of_methodNamed B.named B.method).1) rfl
  exact hb s.heap [] _ hH (fun _ _ => rfl) (fun x hx => by cases hx) hl
section ENDS
variable {z : Zt} {own : String} {cc : ByteArray} {nL : Nat} {rm : Room} {ret : Option FieldType} {pc : Nat} {lv : List (Nat × Value)} {st : List Value} {M : Mm} {k n : Nat}
theorem r_iret {x : Int32} {K : Int32 → Mm → Prop} (hz : Good z own cc nL rm (some .int)) (hq : Ret z zI K) (d : decode cc pc = .ok (.ireturn, 1)) (h1 : k ≤ rm.cells) (h2 : n ≤ rm.slots) : Sim z pc lv [.int x] M k n (some (x, M)) K := by
  obtain ⟨g, p, l, e, R, s, m, args, below, meth, c, nLq, Q⟩ := z
  intro v0 M0 hr hK H locs ls hH hB hL hl
  cases hr
  obtain ⟨hx, hb, hml, hown, hts, hKN, hlk, -, hRm, hrt⟩ := hz
  subst hRm
  have hQ : Q = _ := hq x M hK
  subst hQ
  refine W.widen (k := R.cells) (n := R.slots) h1 h2 ?_
  exact W.iret (v := x) hx hb hrt (fun t ht _ => ⟨rfl, by rw [ht]; exact hH, fun q hq => by rw [ht]; exact hB q hq⟩) hL d hlk
theorem r_zret {x : Int32} {K : Int32 → Mm → Prop} (hz : Good z own cc nL rm (some .boolean)) (hq : Ret z zI K) (d : decode cc pc = .ok (.ireturn, 1)) (hx0 : x = 0 ∨ x = 1) (h1 : k ≤ rm.cells) (h2 : n ≤ rm.slots) : Sim z pc lv [.int x] M k n (some (x, M)) K := by
  obtain ⟨g, p, l, e, R, s, m, args, below, meth, c, nLq, Q⟩ := z
  intro v0 M0 hr hK H locs ls hH hB hL hl
  cases hr
  obtain ⟨hx, hb, hml, hown, hts, hKN, hlk, -, hRm, hrt⟩ := hz
  subst hRm
  have hQ : Q = _ := hq x M hK
  subst hQ
  refine W.widen (k := R.cells) (n := R.slots) h1 h2 ?_
  exact W.zret (v := x) hx hb hrt (by rcases hx0 with e | e <;> subst e <;> rfl) (fun t ht _ => ⟨rfl, by rw [ht]; exact hH, fun q hq => by rw [ht]; exact hB q hq⟩) hL d hlk
theorem r_lret {x : Int64} {K : Int64 → Mm → Prop} (hz : Good z own cc nL rm (some .long)) (hq : Ret z zL K) (d : decode cc pc = .ok (.lreturn, 1)) (h1 : k ≤ rm.cells) (h2 : n ≤ rm.slots) : Sim z pc lv [.long x] M k n (some (x, M)) K := by
  obtain ⟨g, p, l, e, R, s, m, args, below, meth, c, nLq, Q⟩ := z
  intro v0 M0 hr hK H locs ls hH hB hL hl
  cases hr
  obtain ⟨hx, hb, hml, hown, hts, hKN, hlk, -, hRm, hrt⟩ := hz
  subst hRm
  have hQ : Q = _ := hq x M hK
  subst hQ
  refine W.widen (k := R.cells) (n := R.slots) h1 h2 ?_
  exact W.lret (v := x) hx hb hrt (fun t ht _ => ⟨rfl, by rw [ht]; exact hH, fun q hq => by rw [ht]; exact hB q hq⟩) hL d hlk
theorem r_vret {x : Unit} {K : Unit → Mm → Prop} (hz : Good z own cc nL rm none) (hq : Ret z zU K) (d : decode cc pc = .ok (.return_, 1)) (h1 : k ≤ rm.cells) (h2 : n ≤ rm.slots) : Sim z pc lv [] M k n (some (x, M)) K := by
  obtain ⟨g, p, l, e, R, s, m, args, below, meth, c, nLq, Q⟩ := z
  intro v0 M0 hr hK H locs ls hH hB hL hl
  cases hr
  obtain ⟨hx, hb, hml, hown, hts, hKN, hlk, -, hRm, hrt⟩ := hz
  subst hRm
  have hQ : Q = _ := hq x M hK
  subst hQ
  refine W.widen (k := R.cells) (n := R.slots) h1 h2 ?_
  exact W.vret hx hb hrt (fun t ht _ => ⟨rfl, by rw [ht]; exact hH, fun q hq => by rw [ht]; exact hB q hq⟩) hL d hlk
theorem r_aret {x : Nat} {nmq : String} {K : Nat → Mm → Prop} (hz : Good z own cc nL rm (some (.object nmq))) (hq : Ret z zA K) (d : decode cc pc = .ok (.areturn, 1)) (h1 : k ≤ rm.cells) (h2 : n ≤ rm.slots) : Sim z pc lv [.ref x] M k n (some (x, M)) K := by
  obtain ⟨g, p, l, e, R, s, m, args, below, meth, c, nLq, Q⟩ := z
  intro v0 M0 hr hK H locs ls hH hB hL hl
  cases hr
  obtain ⟨hx, hb, hml, hown, hts, hKN, hlk, -, hRm, hrt⟩ := hz
  subst hRm
  have hQ : Q = _ := hq x M hK
  subst hQ
  refine W.widen (k := R.cells) (n := R.slots) h1 h2 ?_
  exact W.aret (v := .ref x) hx hb hrt (Or.inl ⟨_, rfl⟩) (Or.inr ⟨x, rfl⟩) (fun t ht _ => ⟨rfl, by rw [ht]; exact hH, fun q hq => by rw [ht]; exact hB q hq⟩) hL d hlk
end ENDS
/-- what the tables say of a method that is called -/
def CalOk (y : MethodName) (bytes : ByteArray) (maxL : Nat) (ret : Option FieldType) (np : Nat) : Prop :=
  Cond.code y bytes maxL ret ∈ Wd ∧ Cond.initialized y.cls ∈ Wd ∧ y.cls ≠ "java/lang/invoke/MethodHandle" ∧ y.cls ≠ "java/lang/invoke/VarHandle" ∧ (parseMethodDescriptor y.desc).map (fun d => d.parameters.length) = some np
section CALLS
variable {z : Zt} {own : String} {cc : ByteArray} {nL : Nat} {rm : Room} {ret : Option FieldType} {pc : Nat} {lv : List (Nat × Value)} {st : List Value} {M : Mm} {k n : Nat} {α : Type} {r : Option (α × Mm)} {K : α → Mm → Prop}
variable {y : MethodName} {bytes : ByteArray} {maxL np i : Nat} {rt : Option FieldType} {rc : Room} {As : Gd → List Value} {β : Type} {rb : Option (β × Mm)} {vf : β → Option Value} {f : β → Mm → Option (α × Mm)} {stk : List Value} {b ci : Nat}
theorem r_call (hz : Good z own cc nL rm ret) (hC : ∀ x M', rb = some (x, M') → Ctr y bytes maxL rt rc As M (vf x) M')
    (hrun : ∀ (g : Gd) (p : Program) (l : Launch) (e : Env) (R : Room) (s : State) (m : MethodId) (args : Array Value) (below : List Frame) (meth : Method) (c : Code) (nLq : Nat) (Q : State → Prop) (x : β) (M' : Mm) (H : Heap) (locs : List Loc) (ls : Array Slot), z = (g, p, l, e, R, s, m, args, below, meth, c, nLq, Q) → Met l y (Cond.code y bytes maxL rt :: Wd) rc (Po g (As g) M) (Qo g (vf x) M') rc.cells rc.slots (fun q => g.2.2.1 ≤ q) → HH g M H → (∀ q : Nat, q < g.2.2.1 → H[q]? = s.heap[q]?) → ls.size = nL →
      va_Run p l e R s m args below meth c H locs k n rc.cells rc.slots (F0 m pc ls stk) st (Qo g (vf x) M' (As g).toArray) (fun q => g.2.2.1 ≤ q))
    (h0 : ∀ x M', Sim z (pc + 3) lv ((vf x).toList ++ st) M' (k + rc.cells) (n + rc.slots) (f x M') K) : Sim z pc lv stk M k n (bd rb f) K := by
  obtain ⟨g, p, l, e, R, s, m, args, below, meth, c, nLq, Q⟩ := z
  intro v0 M0 hr hK H locs ls hH hB hL hl
  obtain ⟨x, M1, e1, e2⟩ := bd_some hr
  have hnl : nLq = nL := hz.2.2.2.2.2.2.2.1
  have hrun := hrun g p l e R s m args below meth c nLq Q x M1 H locs ls rfl (hC x M1 e1 l g) hH hB (by rw [hl.1, hnl])
  intro T hT X
  obtain ⟨v, st₀, t, T', L, q0, X', qL, e3, e4, ⟨hv, hH', hO⟩, st'⟩ := hrun T hT X
  have hv' : v = vf x := Outcome.returned.inj hv
  subst hv'
  obtain ⟨t2, a1, b1⟩ := h0 x M1 v0 M0 e2 hK T'.heap (locs ++ L) ls (by rw [e3]; exact hH') (fun q hq => by rw [e3, hO q hq, q0]; exact hB q hq) (loc_app hL qL) hl T' rfl X'
  exact ⟨t2, st' t2 a1, b1⟩
theorem pre_of {g : Gd} {s : State} {H : Heap} {Bs : List Value} (hKN : KN g s) (hH : HH g M H) (hB : ∀ q : Nat, q < g.2.2.1 → H[q]? = s.heap[q]?) : ∀ U : State, U.heap = H → s.WarmedH U.vm → Po g Bs M Bs.toArray U := fun U hU hW => ⟨rfl, by rw [hU]; exact hH, hKN.to hW (fun q hq => by rw [hU]; exact hB q hq)⟩
/-- invokevirtual -/
theorem r_callV {C : String} {T : u_T} {N : Nat} {ty : Nat → FieldType} (hcl : ClOk ci C T N ty) (hz : Good z own cc nL rm ret) (hC : ∀ x M', rb = some (x, M') → Ctr y bytes maxL rt rc (fun g => .ref b :: As g) M (vf x) M') (hy : CalOk y bytes maxL rt np) (d : decode cc pc = .ok (.invokevirtual i, 3))
    (hw1 : Cond.methodLink own i y ∈ Wd) (hw2 : Cond.instanceMethod y ∈ Wd) (hw3 : Cond.selects C y y ∈ Wd) (hst : stk = (As z.1).reverse ++ .ref b :: st) (hn : (As z.1).length = np) (hW : (st.map fun v => v.category).sum ≤ 8) (hR : rc.frames + 1 ≤ rm.frames ∧ 8 + (maxL + 11) + rc.locals ≤ rm.locals) (hc : k + rc.cells ≤ rm.cells ∧ n + rc.slots ≤ rm.slots)
    {dc : Decidable (gK M b = ci)} (h0 : ∀ x M', Sim z (pc + 3) lv ((vf x).toList ++ st) M' (k + rc.cells) (n + rc.slots) (f x M') K) : Sim z pc lv stk M k n (ck (gK M b = ci) (bd rb f)) K := by
  refine r_ck (fun hk => ?_)
  refine r_call hz hC (fun g p l e R s m args below meth c nLq Q x M' H locs ls ez hM hH hB hsz => ?_) h0
  subst ez
  obtain ⟨hx, hb, hml, hown, hts, hKN, hlk, hnl, hRm, hrt⟩ := hz
  subst hRm
  have hts' : ∀ w ∈ Wd, w.before args s = true := hts
  obtain ⟨cell, q1, q2, q3, -⟩ := at_obj hH hk hcl.1
  have hfc := (hKN.1.1 ci _ hcl.1).2.1
  refine va_runV (C := C) (Ts := Wd) (As := As g) ⟨hx, hb, hml, hown, hts'⟩ hM ⟨callB_of np hts' (wd_sub hy.1) rfl rfl rfl (hts _ hy.2.1) (hts _ hw1) hy.2.2 hR, hts _ hw2, hts _ hw3⟩ ⟨po_blind, ⟨cell, q1, by rw [q3]; rfl, by rw [q2]; exact hfc⟩, pre_of hKN hH hB⟩ rfl hn hsz hst (lv_room hW) d hc
/-- invokestatic -/
theorem r_callS (hz : Good z own cc nL rm ret) (hC : ∀ x M', rb = some (x, M') → Ctr y bytes maxL rt rc As M (vf x) M') (hy : CalOk y bytes maxL rt np) (d : decode cc pc = .ok (.invokestatic i, 3))
    (hw1 : Cond.methodLink own i y ∈ Wd) (hw2 : Cond.static y ∈ Wd) (hst : stk = (As z.1).reverse ++ st) (hn : (As z.1).length = np) (hW : (st.map fun v => v.category).sum ≤ 8) (hR : rc.frames + 1 ≤ rm.frames ∧ 8 + (maxL + 11) + rc.locals ≤ rm.locals) (hc : k + rc.cells ≤ rm.cells ∧ n + rc.slots ≤ rm.slots)
    (h0 : ∀ x M', Sim z (pc + 3) lv ((vf x).toList ++ st) M' (k + rc.cells) (n + rc.slots) (f x M') K) : Sim z pc lv stk M k n (bd rb f) K := by
  refine r_call hz hC (fun g p l e R s m args below meth c nLq Q x M' H locs ls ez hM hH hB hsz => ?_) h0
  subst ez
  obtain ⟨hx, hb, hml, hown, hts, hKN, hlk, hnl, hRm, hrt⟩ := hz
  subst hRm
  have hts' : ∀ w ∈ Wd, w.before args s = true := hts
  exact va_runS (Ts := Wd) (As := As g) ⟨hx, hb, hml, hown, hts'⟩ hM ⟨callB_of np hts' (wd_sub hy.1) rfl rfl rfl (hts _ hy.2.1) (hts _ hw1) hy.2.2 hR, hts _ hw2⟩ ⟨po_blind, pre_of hKN hH hB⟩ rfl hn hsz hst (lv_room hW) d hc
/-- a static method of a nest mate -/
theorem r_callSN {host : String} (hz : Good z own cc nL rm ret) (hC : ∀ x M', rb = some (x, M') → Ctr y bytes maxL rt rc As M (vf x) M') (hy : CalOk y bytes maxL rt np) (d : decode cc pc = .ok (.invokestatic i, 3))
    (hw1 : (own, i, y, host) ∈ nsL) (hw2 : Cond.static y ∈ Wd) (hst : stk = (As z.1).reverse ++ st) (hn : (As z.1).length = np) (hW : (st.map fun v => v.category).sum ≤ 8) (hR : rc.frames + 1 ≤ rm.frames ∧ 8 + (maxL + 11) + rc.locals ≤ rm.locals) (hc : k + rc.cells ≤ rm.cells ∧ n + rc.slots ≤ rm.slots)
    (h0 : ∀ x M', Sim z (pc + 3) lv ((vf x).toList ++ st) M' (k + rc.cells) (n + rc.slots) (f x M') K) : Sim z pc lv stk M k n (bd rb f) K := by
  refine r_call hz hC (fun g p l e R s m args below meth c nLq Q x M' H locs ls ez hM hH hB hsz => ?_) h0
  subst ez
  obtain ⟨hx, hb, hml, hown, hts, hKN, hlk, hnl, hRm, hrt⟩ := hz
  subst hRm
  have hts' : ∀ w ∈ Wd, w.before args s = true := hts
  exact va_runSN (Ts := Wd) (As := As g) ⟨hx, hb, hml, hown, hts'⟩ hM ⟨va_cnB np hts' (wd_sub hy.1) rfl rfl rfl (hKN.2.2.2.2.2.2.1 _ hw1) (hts _ hy.2.1) hy.2.2 hR, hts _ hw2, trivial⟩ ⟨po_blind, pre_of hKN hH hB⟩ rfl hn hsz hst (lv_room hW) d hc
/-- a constructor -/
theorem r_callI {rb : Option (Unit × Mm)} {f : Unit → Mm → Option (α × Mm)} (hz : Good z own cc nL rm ret) (hC : ∀ x M', rb = some (x, M') → Ctr y bytes maxL none rc (fun g => .ref b :: As g) M none M') (hy : CalOk y bytes maxL none np) (hy1 : y.name = "<init>") (d : decode cc pc = .ok (.invokespecial i, 3))
    (hw1 : Cond.methodLink own i y ∈ Wd) (hw2 : Cond.instanceMethod y ∈ Wd) (hst : stk = (As z.1).reverse ++ .ref b :: st) (hn : (As z.1).length = np) (hW : (st.map fun v => v.category).sum ≤ 8) (hR : rc.frames + 1 ≤ rm.frames ∧ 8 + (maxL + 11) + rc.locals ≤ rm.locals) (hc : k + rc.cells ≤ rm.cells ∧ n + rc.slots ≤ rm.slots)
    (h0 : ∀ x M', Sim z (pc + 3) lv st M' (k + rc.cells) (n + rc.slots) (f x M') K) : Sim z pc lv stk M k n (bd rb f) K := by
  refine r_call (vf := zU) (rb := rb) (rt := none) hz hC (fun g p l e R s m args below meth c nLq Q x M' H locs ls ez hM hH hB hsz => ?_) h0
  subst ez
  obtain ⟨hx, hb, hml, hown, hts, hKN, hlk, hnl, hRm, hrt⟩ := hz
  subst hRm
  have hts' : ∀ w ∈ Wd, w.before args s = true := hts
  exact va_runI (Ts := Wd) (As := As g) ⟨hx, hb, hml, hown, hts'⟩ hM ⟨callB_of np hts' (wd_sub hy.1) rfl rfl rfl (hts _ hy.2.1) (hts _ hw1) hy.2.2 hR, hy1, hts _ hw2⟩ ⟨po_blind, pre_of hKN hH hB⟩ rfl hn hsz hst (lv_room hW) d hc
theorem r_callIN {host : String} {rb : Option (Unit × Mm)} {f : Unit → Mm → Option (α × Mm)} (hz : Good z own cc nL rm ret) (hC : ∀ x M', rb = some (x, M') → Ctr y bytes maxL none rc (fun g => .ref b :: As g) M none M') (hy : CalOk y bytes maxL none np) (hy1 : y.name = "<init>") (d : decode cc pc = .ok (.invokespecial i, 3))
    (hw1 : (own, i, y, host) ∈ nsL) (hw2 : Cond.instanceMethod y ∈ Wd) (hst : stk = (As z.1).reverse ++ .ref b :: st) (hn : (As z.1).length = np) (hW : (st.map fun v => v.category).sum ≤ 8) (hR : rc.frames + 1 ≤ rm.frames ∧ 8 + (maxL + 11) + rc.locals ≤ rm.locals) (hc : k + rc.cells ≤ rm.cells ∧ n + rc.slots ≤ rm.slots)
    (h0 : ∀ x M', Sim z (pc + 3) lv st M' (k + rc.cells) (n + rc.slots) (f x M') K) : Sim z pc lv stk M k n (bd rb f) K := by
  refine r_call (vf := zU) (rb := rb) (rt := none) hz hC (fun g p l e R s m args below meth c nLq Q x M' H locs ls ez hM hH hB hsz => ?_) h0
  subst ez
  obtain ⟨hx, hb, hml, hown, hts, hKN, hlk, hnl, hRm, hrt⟩ := hz
  subst hRm
  have hts' : ∀ w ∈ Wd, w.before args s = true := hts
  exact va_runIN (Ts := Wd) (As := As g) ⟨hx, hb, hml, hown, hts'⟩ hM ⟨va_cnB np hts' (wd_sub hy.1) rfl rfl rfl (hKN.2.2.2.2.2.2.1 _ hw1) (hts _ hy.2.1) hy.2.2 hR, hy1, hts _ hw2⟩ ⟨po_blind, pre_of hKN hH hB⟩ rfl hn hsz hst (lv_room hW) d hc
theorem r_objInit (hz : Good z own cc nL rm ret) (d : decode cc pc = .ok (.invokespecial i, 3)) (hw1 : Cond.methodLink own i objectInit ∈ Wd) (hw2 : Cond.instanceMethod objectInit ∈ Wd) (hw3 : Cond.code objectInit ⟨#[0xb1]⟩ 1 none ∈ Wd) (hf : 1 ≤ rm.frames) (hlo : (st.map fun v => v.category).sum + 12 ≤ rm.locals) (h0 : Sim z (pc + 3) lv st M k n r K) : Sim z pc lv (.ref b :: st) M k n r K := by
  obtain ⟨g, p, l, e, R, s, m, args, below, meth, c, nLq, Q⟩ := z
  intro v0 M0 hr hK H locs ls hH hB hL hl
  obtain ⟨hx, hb, hml, hown, hts, hKN, hlk, hnl, hRm, hrt⟩ := hz
  subst hRm
  refine W.objInit hx hb hown (hts _ hw1) (hts _ hw2) (hts _ hw3) rfl (by rw [hml, ← hnl]; exact hl.1) rfl d hf (by show 2 * 0 + _ + 12 ≤ _; omega) ?_
  exact h0 v0 M0 hr hK H locs ls hH hB hL hl
end CALLS
