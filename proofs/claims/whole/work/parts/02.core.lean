/-! the words that every method may use: those of the tables that hold at every state of the run -/
def Wd : List Cond := lw_tbl.filter goodWord
theorem wd_in {w : Cond} (h : w ∈ lw_tbl) (g : goodWord w = true) : w ∈ Wd := List.mem_filter.mpr ⟨h, g⟩
theorem wd_good {w : Cond} (h : w ∈ Wd) : goodWord w = true := (List.mem_filter.mp h).2
theorem wd_t1 {w : Cond} (i : Nat) (h : tables_1_1[i]? = some w) (g : goodWord w = true) : w ∈ Wd := wd_in (List.mem_append_right _ (List.mem_append_left _ (List.mem_of_getElem? h))) g
theorem wd_t2 {w : Cond} (i : Nat) (h : tables_1_2[i]? = some w) (g : goodWord w = true) : w ∈ Wd := wd_in (List.mem_append_right _ (List.mem_append_right _ (List.mem_append_left _ (List.mem_of_getElem? h)))) g
theorem wd_t3 {w : Cond} (i : Nat) (h : tables_1_3[i]? = some w) (g : goodWord w = true) : w ∈ Wd := wd_in (List.mem_append_right _ (List.mem_append_right _ (List.mem_append_right _ (List.mem_append_left _ (List.mem_of_getElem? h))))) g
theorem wd_t4 {w : Cond} (i : Nat) (h : tables_1_4[i]? = some w) (g : goodWord w = true) : w ∈ Wd := wd_in (List.mem_append_right _ (List.mem_append_right _ (List.mem_append_right _ (List.mem_append_right _ (List.mem_append_left _ (List.mem_of_getElem? h)))))) g
theorem wd_t5 {w : Cond} (i : Nat) (h : tables_1_5[i]? = some w) (g : goodWord w = true) : w ∈ Wd := wd_in (List.mem_append_right _ (List.mem_append_right _ (List.mem_append_right _ (List.mem_append_right _ (List.mem_append_right _ (List.mem_append_left _ (List.mem_of_getElem? h))))))) g
theorem wd_t6 {w : Cond} (i : Nat) (h : tables_1_6[i]? = some w) (g : goodWord w = true) : w ∈ Wd := wd_in (List.mem_append_right _ (List.mem_append_right _ (List.mem_append_right _ (List.mem_append_right _ (List.mem_append_right _ (List.mem_append_right _ (List.mem_append_left _ (List.mem_of_getElem? h)))))))) g
theorem wd_t7 {w : Cond} (i : Nat) (h : tables_1_7[i]? = some w) (g : goodWord w = true) : w ∈ Wd := wd_in (List.mem_append_right _ (List.mem_append_right _ (List.mem_append_right _ (List.mem_append_right _ (List.mem_append_right _ (List.mem_append_right _ (List.mem_append_right _ (List.mem_of_getElem? h)))))))) g
theorem wd_p {w : Cond} (i : Nat) (h : (k2_sels lw_privs)[i]? = some w) (g : goodWord w = true) : w ∈ Wd := wd_in (List.mem_append_left _ (List.mem_of_getElem? h)) g
theorem wd_sub {y : MethodName} {bytes : ByteArray} {maxL : Nat} {ret : Option FieldType} (h : Cond.code y bytes maxL ret ∈ Wd) : GoodIn Wd (Cond.code y bytes maxL ret :: Wd) := fun w hw => by
  rcases List.mem_cons.mp hw with e | e
  · subst e; exact ⟨h, good_of_word (wd_good h)⟩
  · exact ⟨e, good_of_word (wd_good e)⟩
/-! the memory: numbers, longs, references by place; the kind and the length of each cell; the first free address -/
abbrev Mm : Type := (Nat → Nat → Int32) × (Nat → Nat → Int64) × (Nat → Nat → Option Nat) × (Nat → Nat) × (Nat → Nat) × Nat
def gI (M : Mm) (a j : Nat) : Int32 := M.1 a j
def gL (M : Mm) (a j : Nat) : Int64 := M.2.1 a j
def gR (M : Mm) (a j : Nat) : Option Nat := M.2.2.1 a j
def gK (M : Mm) (a : Nat) : Nat := M.2.2.2.1 a
def gN (M : Mm) (a : Nat) : Nat := M.2.2.2.2.1 a
def gT (M : Mm) : Nat := M.2.2.2.2.2
def sI (M : Mm) (a j : Nat) (v : Int32) : Mm := (fun b i => if b = a ∧ i = j then v else M.1 b i, M.2)
def sL (M : Mm) (a j : Nat) (v : Int64) : Mm := (M.1, fun b i => if b = a ∧ i = j then v else M.2.1 b i, M.2.2)
def sR (M : Mm) (a j : Nat) (v : Option Nat) : Mm := (M.1, M.2.1, fun b i => if b = a ∧ i = j then v else M.2.2.1 b i, M.2.2.2)
def sN (M : Mm) (kd n : Nat) : Mm := (fun b i => if b = gT M then 0 else M.1 b i, fun b i => if b = gT M then 0 else M.2.1 b i, fun b i => if b = gT M then none else M.2.2.1 b i, fun b => if b = gT M then kd else M.2.2.2.1 b, fun b => if b = gT M then n else M.2.2.2.2.1 b, gT M + 1)
/-- a row of numbers, copied from another one -/
def sC (M : Mm) (a : Nat) (f : Nat → Int32) : Mm := (fun b i => if b = a then f i else M.1 b i, M.2)
/-- the kinds of a slot: 0 a number, 1 a long, 2 a reference -/
def fK : Nat → Nat → Nat
  | 0, _ => 1
  | 1, j => if j = 0 then 2 else 0
  | 2, _ => 2
  | 3, j => if j = 0 ∨ j = 3 then 2 else 0
  | 4, j => if j = 6 ∨ j = 7 ∨ 11 ≤ j then 2 else 0
  | 5, j => if j = 0 then 0 else 2
  | 6, j => if j < 5 then 0 else 2
  | 7, j => if j = 3 then 0 else if j = 6 then 1 else 2
  | 8, j => if j = 1 ∨ j = 11 ∨ j = 12 ∨ j = 17 ∨ j = 18 ∨ j = 24 ∨ j = 25 ∨ j = 26 ∨ j = 27 ∨ j = 31 then 2 else if j = 28 ∨ j = 29 ∨ j = 30 then 1 else 0
  | _, _ => 0
/-- what a slot of an object holds -/
def fV (M : Mm) (kd a j : Nat) : Value := if fK kd j = 0 then .int (gI M a j) else if fK kd j = 1 then .long (gL M a j) else va_rf (gR M a j)
/-- a cell of the heap is as the memory says -/
def At1 (D : va_G) (cA : Nat → ClassId) (M : Mm) (a : Nat) (H : Heap) : Prop :=
  (∀ (q : vw_C), vwCl[gK M a]? = some q → t_OB a (D.1 (gK M a)) q.2.2 (D.2 (gK M a)) H (fV M (gK M a) a)) ∧
  ((gK M a = 9 ∨ gK M a = 10 ∨ gK M a = 11) → H[a]? = some (arrV (cA (gK M a)) (gN M a) (fun j => .int (gI M a j)))) ∧
  (gK M a = 12 → H[a]? = some (arrV (cA 12) (gN M a) (fun j => va_rf (gR M a j)))) ∧
  (gK M a = 13 → H[a]? = some (arrV (cA 13) (gN M a) (fun j => .long (gL M a j))))
/-- the heap holds the memory: from B on, every cell of a known kind -/
def Hd (D : va_G) (cA : Nat → ClassId) (B : Nat) (M : Mm) (H : Heap) : Prop :=
  H.size = gT M ∧ B ≤ gT M ∧ ∀ a, gK M a < 14 → B ≤ a ∧ a < gT M ∧ At1 D cA M a H
def tyA : Nat → FieldType
  | 9 => .byte
  | 10 => .int
  | 11 => .boolean
  | 12 => .object "DrawnBonds$State"
  | _ => .long
def tysA (cA : Nat → ClassId) : List (ClassId × FieldType) := [(cA 9, .byte), (cA 10, .int), (cA 11, .boolean), (cA 12, .object "DrawnBonds$State"), (cA 13, .long)]
/-! what stands in the old heap: numbers that the reference's words are, the String constants -/
def stL : List (String × Int32) := [("W_LOAN", 408622), ("W_BONDS", 2603155), ("W_PAR", 16434), ("W_COUPON", 117096942), ("W_YEARS", 26379859), ("W_EVEN", 186542), ("W_END", 5572), ("W_SINK", 632267), ("W_LAPSE", 12632677), ("W_HOLDER", 284561586), ("W_CASH", 99944), ("W_HOLDS", 8892563), ("W_PRIZE", 17377093), ("W_PRICE", 17376357)]
def srL : List (String × Nat × String) := [("DrawnBonds$Reader", 56, "loan"), ("DrawnBonds$Reader", 100, "bonds"), ("DrawnBonds$Reader", 111, "par"), ("DrawnBonds$Reader", 115, "coupon"), ("DrawnBonds$Reader", 119, "years"), ("DrawnBonds$Reader", 141, "even"), ("DrawnBonds$Reader", 143, "end"), ("DrawnBonds$Reader", 135, "sink"), ("DrawnBonds$Reader", 147, "lapse"), ("DrawnBonds$Reader", 66, "holder"), ("DrawnBonds$Reader", 154, "cash"), ("DrawnBonds$Reader", 71, "holds"), ("DrawnBonds$Reader", 76, "prize"), ("DrawnBonds$Reader", 81, "price"), ("DrawnBonds", 122, "no such loan"), ("DrawnBonds", 154, "a loan has nothing of that number")]
def sbL : List (List Int32) := [[108, 111, 97, 110], [98, 111, 110, 100, 115], [112, 97, 114], [99, 111, 117, 112, 111, 110], [121, 101, 97, 114, 115], [101, 118, 101, 110], [101, 110, 100], [115, 105, 110, 107], [108, 97, 112, 115, 101], [104, 111, 108, 100, 101, 114], [99, 97, 115, 104], [104, 111, 108, 100, 115], [112, 114, 105, 122, 101], [112, 114, 105, 99, 101], [110, 111, 32, 115, 117, 99, 104, 32, 108, 111, 97, 110], [97, 32, 108, 111, 97, 110, 32, 104, 97, 115, 32, 110, 111, 116, 104, 105, 110, 103, 32, 111, 102, 32, 116, 104, 97, 116, 32, 110, 117, 109, 98, 101, 114]]
def snL : List Nat := [4, 5, 3, 6, 5, 4, 3, 4, 5, 6, 4, 5, 5, 5, 12, 33]
def nsL : List (String × Nat × MethodName × String) := [("DrawnBonds", 9, yX6_init, "DrawnBonds"), ("DrawnBonds", 18, yX5_init, "DrawnBonds"), ("DrawnBonds", 44, yX3_init, "DrawnBonds"), ("DrawnBonds$Reader", 24, yX6_init, "DrawnBonds"), ("DrawnBonds", 51, yX4_init, "DrawnBonds"), ("DrawnBonds", 58, yX1_init, "DrawnBonds"), ("DrawnBonds", 65, yX0_init, "DrawnBonds"), ("DrawnBonds", 72, yX2_init, "DrawnBonds"), ("DrawnBonds$Terms", 73, yX7_spotOf, "DrawnBonds"), ("DrawnBonds$Reader", 197, yX7_cellOf, "DrawnBonds"), ("DrawnBonds$State", 69, yX7_cellOf, "DrawnBonds"), ("DrawnBonds$State", 86, yX7_spotOf, "DrawnBonds"), ("DrawnBonds$Row", 98, yX7_cellOf, "DrawnBonds"), ("DrawnBonds$Drum", 32, yX7_spotOf, "DrawnBonds"), ("DrawnBonds$Discount", 20, yX7_commonDivisor, "DrawnBonds"), ("DrawnBonds$Luck", 33, yX7_spotOf, "DrawnBonds")]
abbrev Gd : Type := va_G × (Nat → ClassId) × Nat × (Nat → Nat) × (Nat → Nat)
abbrev Zt : Type := Gd × Program × Launch × Env × Room × State × MethodId × Array Value × List Frame × Method × Code × Nat × (State → Prop)
def zS (z : Zt) (i : Nat) : Nat := z.1.2.2.2.1 i
def HH (g : Gd) (M : Mm) (H : Heap) : Prop := Hd g.1 g.2.1 g.2.2.1 M H
def KN (g : Gd) (U : State) : Prop :=
  va_K g.1 vwCl (tysA g.2.1) U ∧ (∀ q ∈ stL, va_Z "DrawnBondsModel" q.1 "I" (.int q.2) (fun a => g.2.2.1 ≤ a) U U.heap) ∧
  vk_S 16 snL sbL g.2.2.2.1 g.2.2.2.2 (fun a => g.2.2.1 ≤ a) U U.heap ∧ (∀ (i : Nat) (q : String × Nat × String), srL[i]? = some q → vk_R q.1 q.2.1 q.2.2 (g.2.2.2.1 i) U) ∧
  va_Z "java/lang/String" "COMPACT_STRINGS" "Z" (.int 1) (fun a => g.2.2.1 ≤ a) U U.heap ∧ va_Zq "jdk/internal/util/Preconditions" "SIOOBE_FORMATTER" "Ljava/util/function/BiFunction;" (fun a => g.2.2.1 ≤ a) U U.heap ∧ (∀ q ∈ nsL, va_Nw (.methodLinkNest q.1 q.2.1 q.2.2.1 q.2.2.2) U) ∧ va_AO "DrawnBonds$State" U
theorem KN.to {g : Gd} {s U : State} (h : KN g s) (hW : s.WarmedH U.vm) (hh : ∀ q : Nat, q < g.2.2.1 → U.heap[q]? = s.heap[q]?) : KN g U := by
  obtain ⟨h1, h2, h3, h4, h5, h6, h7, h8⟩ := h
  have hq : ∀ a : Nat, a < s.heap.size → ¬ (fun a => g.2.2.1 ≤ a) a → U.heap[a]? = s.heap[a]? := fun a _ hn => hh a (Nat.not_le.mp hn)
  exact ⟨va_K.moved hW.alike h1, fun q hq' => (va_Z.moved hW.alike (h2 q hq')).kept hq, (vk_S.moved hW.alike h3).kept hq, fun i q hi => (h4 i q hi).warm hW, (va_Z.moved hW.alike h5).kept hq, (va_Zq.moved hW.alike h6).kept hq, fun q hq' => va_Nw.warmM hW (h7 q hq'), va_AO.moved hW.alike h8⟩
theorem KN.call {g : Gd} {U : State} (f : JFrame) (mk : MethodId) (a : Array Value) (h : KN g U) : KN g (U.calling f mk a) := by
  obtain ⟨h1, h2, h3, h4, h5, h6, h7, h8⟩ := h
  exact ⟨va_K.moved (u := U) (U := U.calling f mk a) (Vm.Alike.refl U.vm) h1, fun q hq => va_Z.moved (u := U) (U := U.calling f mk a) (Vm.Alike.refl U.vm) (h2 q hq), vk_S.moved (u := U) (U := U.calling f mk a) (Vm.Alike.refl U.vm) h3, fun i q hi => (h4 i q hi).same (u := U) (U := U.calling f mk a) rfl, va_Z.moved (u := U) (U := U.calling f mk a) (Vm.Alike.refl U.vm) h5, va_Zq.moved (u := U) (U := U.calling f mk a) (Vm.Alike.refl U.vm) h6, fun q hq => va_Nw.same (u := U) (U := U.calling f mk a) rfl rfl (h7 q hq), va_AO.moved (u := U) (U := U.calling f mk a) (Vm.Alike.refl U.vm) h8⟩
/-- the machine stands at pc with these locals, this stack, this memory, and comes to its end -/
def Cfg (z : Zt) (pc : Nat) (lv : List (Nat × Value)) (st : List Value) (M : Mm) (k n : Nat) : Prop :=
  match z with
  | (g, p, l, e, R, s, m, args, below, meth, c, nL, Q) => ∀ (H : Heap) (locs : List Loc) (ls : Array Slot), HH g M H → (∀ q : Nat, q < g.2.2.1 → H[q]? = s.heap[q]?) → (∀ x ∈ locs, g.2.2.1 ≤ x.base) → lv_has ls nL lv → W p l e R s m args below meth c H locs k n Q (F0 m pc ls st)
/-- what stays true in a whole body -/
def Good (z : Zt) (own : String) (cc : ByteArray) (nL : Nat) (rm : Room) (ret : Option FieldType) : Prop :=
  match z with
  | (g, p, _, _, R, s, m, args, _, meth, c, nL', _) => p.tables.exec = Jvm.exec ∧ c.code = cc ∧ c.maxLocals = nL ∧ s.vm.findClass own = some m.cls ∧ (∀ w ∈ Wd, w.before args s = true) ∧ KN g s ∧ meth.locks = false ∧ nL' = nL ∧ R = rm ∧ meth.sig.returnType = ret
/-- a stretch of code does what the number r tells: if r is an answer, and from that answer on all is well, then from here on all is well -/
def Sim {α : Type} (z : Zt) (pc : Nat) (lv : List (Nat × Value)) (st : List Value) (M : Mm) (k n : Nat) (r : Option (α × Mm)) (K : α → Mm → Prop) : Prop := ∀ (x : α) (M' : Mm), r = some (x, M') → K x M' → Cfg z pc lv st M k n
def ck {β : Type} (c : Prop) [Decidable c] (r : Option β) : Option β := if c then r else none
def nm {α β : Type} (x : α) (k : α → Option β) : Option β := k x
def bd {α β : Type} (r : Option (α × Mm)) (k : α → Mm → Option β) : Option β := match r with
  | none => none
  | some q => k q.1 q.2
def bR {β : Type} (r : Option Nat) (k : Nat → Option β) : Option β := match r with
  | none => none
  | some q => k q
theorem ck_some {β : Type} {c : Prop} [Decidable c] {r : Option β} {x : β} (h : ck c r = some x) : c ∧ r = some x := by
  unfold ck at h
  split at h
  · exact ⟨by assumption, h⟩
  · cases h
theorem bd_some {α β : Type} {r : Option (α × Mm)} {k : α → Mm → Option β} {x : β} (h : bd r k = some x) : ∃ y M, r = some (y, M) ∧ k y M = some x := by
  cases r with
  | none => cases h
  | some q => exact ⟨q.1, q.2, rfl, h⟩
theorem bR_some {β : Type} {r : Option Nat} {k : Nat → Option β} {x : β} (h : bR r k = some x) : ∃ y, r = some y ∧ k y = some x := by
  cases r with
  | none => cases h
  | some q => exact ⟨q, rfl, h⟩
section ROWS
variable {z : Zt} {own : String} {cc : ByteArray} {nL : Nat} {rm : Room} {ret : Option FieldType} {pc : Nat} {lv : List (Nat × Value)} {st : List Value} {M : Mm} {k n : Nat} {α : Type} {r : Option (α × Mm)} {K : α → Mm → Prop}
theorem r_iconst {i : Int} {v : Int32} (hz : Good z own cc nL rm ret) (d : decode cc pc = .ok (.iconst i, 1)) (hv : Int32.ofInt i = v) (h0 : Sim z (pc + 1) lv (.int v :: st) M k n r K) : Sim z pc lv st M k n r K := by
  obtain ⟨g, p, l, e, R, s, m, args, below, meth, c, nLq, Q⟩ := z
  intro v0 M0 hr hK H locs ls hH hB hL hl
  exact lv_iconst hz.1 hz.2.1 d hv (h0 v0 M0 hr hK H locs ls hH hB hL hl)
theorem r_bipush {i : Int} {v : Int32} (hz : Good z own cc nL rm ret) (d : decode cc pc = .ok (.bipush i, 2)) (hv : (Int8.ofInt i).toInt32 = v) (h0 : Sim z (pc + 2) lv (.int v :: st) M k n r K) : Sim z pc lv st M k n r K := by
  obtain ⟨g, p, l, e, R, s, m, args, below, meth, c, nLq, Q⟩ := z
  intro v0 M0 hr hK H locs ls hH hB hL hl
  exact lv_bipush hz.1 hz.2.1 d hv (h0 v0 M0 hr hK H locs ls hH hB hL hl)
theorem r_sipush {i : Int} {v : Int32} (hz : Good z own cc nL rm ret) (d : decode cc pc = .ok (.sipush i, 3)) (hv : (Int16.ofInt i).toInt32 = v) (h0 : Sim z (pc + 3) lv (.int v :: st) M k n r K) : Sim z pc lv st M k n r K := by
  obtain ⟨g, p, l, e, R, s, m, args, below, meth, c, nLq, Q⟩ := z
  intro v0 M0 hr hK H locs ls hH hB hL hl
  exact lv_sipush hz.1 hz.2.1 d hv (h0 v0 M0 hr hK H locs ls hH hB hL hl)
theorem r_lconst {i : Fin 2} {v : Int64} (hz : Good z own cc nL rm ret) (d : decode cc pc = .ok (.lconst i, 1)) (hv : Int64.ofNat (i : Nat) = v) (h0 : Sim z (pc + 1) lv (.long v :: st) M k n r K) : Sim z pc lv st M k n r K := by
  obtain ⟨g, p, l, e, R, s, m, args, below, meth, c, nLq, Q⟩ := z
  intro v0 M0 hr hK H locs ls hH hB hL hl
  exact lv_lconst hz.1 hz.2.1 d hv (h0 v0 M0 hr hK H locs ls hH hB hL hl)
theorem r_ldc {i : Nat} {v : Int32} (hz : Good z own cc nL rm ret) (d : decode cc pc = .ok (.ldc i, 2)) (hw : Cond.constant own i v ∈ Wd) (h0 : Sim z (pc + 2) lv (.int v :: st) M k n r K) : Sim z pc lv st M k n r K := by
  obtain ⟨g, p, l, e, R, s, m, args, below, meth, c, nLq, Q⟩ := z
  intro v0 M0 hr hK H locs ls hH hB hL hl
  exact lv_ldc hz.1 hz.2.1 hz.2.2.2.1 (hz.2.2.2.2.1 _ hw) d (h0 v0 M0 hr hK H locs ls hH hB hL hl)
theorem r_ldcw {i : Nat} {v : Int32} (hz : Good z own cc nL rm ret) (d : decode cc pc = .ok (.ldc_w i, 3)) (hw : Cond.constant own i v ∈ Wd) (h0 : Sim z (pc + 3) lv (.int v :: st) M k n r K) : Sim z pc lv st M k n r K := by
  obtain ⟨g, p, l, e, R, s, m, args, below, meth, c, nLq, Q⟩ := z
  intro v0 M0 hr hK H locs ls hH hB hL hl
  exact lv_ldcw hz.1 hz.2.1 hz.2.2.2.1 (hz.2.2.2.2.1 _ hw) d (h0 v0 M0 hr hK H locs ls hH hB hL hl)
theorem r_ldc2 {i : Nat} {v : Int64} (hz : Good z own cc nL rm ret) (d : decode cc pc = .ok (.ldc2_w i, 3)) (hw : Cond.constantLong own i v ∈ Wd) (h0 : Sim z (pc + 3) lv (.long v :: st) M k n r K) : Sim z pc lv st M k n r K := by
  obtain ⟨g, p, l, e, R, s, m, args, below, meth, c, nLq, Q⟩ := z
  intro v0 M0 hr hK H locs ls hH hB hL hl
  exact lv_ldc2 hz.1 hz.2.1 hz.2.2.2.1 (hz.2.2.2.2.1 _ hw) d (h0 v0 M0 hr hK H locs ls hH hB hL hl)
theorem r_ldcS {i : Nat} {tx : String} (hz : Good z own cc nL rm ret) (d : decode cc pc = .ok (.ldc i, 2)) (j : Nat) (hw : srL[j]? = some (own, i, tx)) (h0 : Sim z (pc + 2) lv (.ref (zS z j) :: st) M k n r K) : Sim z pc lv st M k n r K := by
  obtain ⟨g, p, l, e, R, s, m, args, below, meth, c, nLq, Q⟩ := z
  intro v0 M0 hr hK H locs ls hH hB hL hl
  exact va_ldcS (q := zS (g, p, l, e, R, s, m, args, below, meth, c, nLq, Q) j) hz.1 hz.2.1 hz.2.2.2.1 (hz.2.2.2.2.2.1.2.2.2.1 j _ hw) d (h0 v0 M0 hr hK H locs ls hH hB hL hl)
theorem r_iload_n {i : Fin 4} {x : Int32} (hz : Good z own cc nL rm ret) (d : decode cc pc = .ok (.iload_n i, 1)) (j : Nat) (hj : lv[j]? = some ((i : Nat), .int x)) (h0 : Sim z (pc + 1) lv (.int x :: st) M k n r K) : Sim z pc lv st M k n r K := by
  obtain ⟨g, p, l, e, R, s, m, args, below, meth, c, nLq, Q⟩ := z
  intro v0 M0 hr hK H locs ls hH hB hL hl
  exact lv_iload_n hz.1 hz.2.1 d rfl (lv_at hl j hj) (h0 v0 M0 hr hK H locs ls hH hB hL hl)
theorem r_iload {i : Nat} {x : Int32} (hz : Good z own cc nL rm ret) (d : decode cc pc = .ok (.iload i, 2)) (j : Nat) (hj : lv[j]? = some (i, .int x)) (h0 : Sim z (pc + 2) lv (.int x :: st) M k n r K) : Sim z pc lv st M k n r K := by
  obtain ⟨g, p, l, e, R, s, m, args, below, meth, c, nLq, Q⟩ := z
  intro v0 M0 hr hK H locs ls hH hB hL hl
  exact lv_iload hz.1 hz.2.1 d (lv_at hl j hj) (h0 v0 M0 hr hK H locs ls hH hB hL hl)
theorem r_istore_n {i : Fin 4} {x : Int32} {lv' : List (Nat × Value)} (hz : Good z own cc nL rm ret) (d : decode cc pc = .ok (.istore_n i, 1)) (hn : (i : Nat) < nL) (hf : ((i : Nat), Value.int x) :: lv.filter (fun q => !(q.1 == (i : Nat)) && !(q.1 + 1 == (i : Nat) && q.2.category == 2)) = lv') (h0 : Sim z (pc + 1) lv' st M k n r K) : Sim z pc lv (.int x :: st) M k n r K := by
  obtain ⟨g, p, l, e, R, s, m, args, below, meth, c, nLq, Q⟩ := z
  intro v0 M0 hr hK H locs ls hH hB hL hl
  exact lv_istore_n hz.1 hz.2.1 d rfl hl (by rw [hz.2.2.2.2.2.2.2.1]; exact hn) hf (fun ls hl => h0 v0 M0 hr hK H locs ls hH hB hL hl)
theorem r_istore {i : Nat} {x : Int32} {lv' : List (Nat × Value)} (hz : Good z own cc nL rm ret) (d : decode cc pc = .ok (.istore i, 2)) (hn : i < nL) (hf : (i, Value.int x) :: lv.filter (fun q => !(q.1 == i) && !(q.1 + 1 == i && q.2.category == 2)) = lv') (h0 : Sim z (pc + 2) lv' st M k n r K) : Sim z pc lv (.int x :: st) M k n r K := by
  obtain ⟨g, p, l, e, R, s, m, args, below, meth, c, nLq, Q⟩ := z
  intro v0 M0 hr hK H locs ls hH hB hL hl
  exact lv_istore hz.1 hz.2.1 d hl (by rw [hz.2.2.2.2.2.2.2.1]; exact hn) hf (fun ls hl => h0 v0 M0 hr hK H locs ls hH hB hL hl)
theorem r_lload_n {i : Fin 4} {x : Int64} (hz : Good z own cc nL rm ret) (d : decode cc pc = .ok (.lload_n i, 1)) (j : Nat) (hj : lv[j]? = some ((i : Nat), .long x)) (h0 : Sim z (pc + 1) lv (.long x :: st) M k n r K) : Sim z pc lv st M k n r K := by
  obtain ⟨g, p, l, e, R, s, m, args, below, meth, c, nLq, Q⟩ := z
  intro v0 M0 hr hK H locs ls hH hB hL hl
  exact lv_lload_n hz.1 hz.2.1 d rfl (lv_at hl j hj) (h0 v0 M0 hr hK H locs ls hH hB hL hl)
theorem r_lload {i : Nat} {x : Int64} (hz : Good z own cc nL rm ret) (d : decode cc pc = .ok (.lload i, 2)) (j : Nat) (hj : lv[j]? = some (i, .long x)) (h0 : Sim z (pc + 2) lv (.long x :: st) M k n r K) : Sim z pc lv st M k n r K := by
  obtain ⟨g, p, l, e, R, s, m, args, below, meth, c, nLq, Q⟩ := z
  intro v0 M0 hr hK H locs ls hH hB hL hl
  exact lv_lload hz.1 hz.2.1 d (lv_at hl j hj) (h0 v0 M0 hr hK H locs ls hH hB hL hl)
theorem r_lstore_n {i : Fin 4} {x : Int64} {lv' : List (Nat × Value)} (hz : Good z own cc nL rm ret) (d : decode cc pc = .ok (.lstore_n i, 1)) (hn : (i : Nat) + 1 < nL) (hf : ((i : Nat), Value.long x) :: lv.filter (fun q => !(q.1 == (i : Nat)) && (!(q.1 == (i : Nat) + 1) && !(q.1 + 1 == (i : Nat) && q.2.category == 2))) = lv') (h0 : Sim z (pc + 1) lv' st M k n r K) : Sim z pc lv (.long x :: st) M k n r K := by
  obtain ⟨g, p, l, e, R, s, m, args, below, meth, c, nLq, Q⟩ := z
  intro v0 M0 hr hK H locs ls hH hB hL hl
  exact lv_lstore_n hz.1 hz.2.1 d rfl hl (by rw [hz.2.2.2.2.2.2.2.1]; exact hn) hf (fun ls hl => h0 v0 M0 hr hK H locs ls hH hB hL hl)
theorem r_lstore {i : Nat} {x : Int64} {lv' : List (Nat × Value)} (hz : Good z own cc nL rm ret) (d : decode cc pc = .ok (.lstore i, 2)) (hn : i + 1 < nL) (hf : (i, Value.long x) :: lv.filter (fun q => !(q.1 == i) && (!(q.1 == i + 1) && !(q.1 + 1 == i && q.2.category == 2))) = lv') (h0 : Sim z (pc + 2) lv' st M k n r K) : Sim z pc lv (.long x :: st) M k n r K := by
  obtain ⟨g, p, l, e, R, s, m, args, below, meth, c, nLq, Q⟩ := z
  intro v0 M0 hr hK H locs ls hH hB hL hl
  exact lv_lstore hz.1 hz.2.1 d hl (by rw [hz.2.2.2.2.2.2.2.1]; exact hn) hf (fun ls hl => h0 v0 M0 hr hK H locs ls hH hB hL hl)
theorem r_aload_n {i : Fin 4} {x : Nat} (hz : Good z own cc nL rm ret) (d : decode cc pc = .ok (.aload_n i, 1)) (j : Nat) (hj : lv[j]? = some ((i : Nat), .ref x)) (h0 : Sim z (pc + 1) lv (.ref x :: st) M k n r K) : Sim z pc lv st M k n r K := by
  obtain ⟨g, p, l, e, R, s, m, args, below, meth, c, nLq, Q⟩ := z
  intro v0 M0 hr hK H locs ls hH hB hL hl
  exact lv_aload_n hz.1 hz.2.1 d rfl (lv_at hl j hj) (h0 v0 M0 hr hK H locs ls hH hB hL hl)
theorem r_aload {i : Nat} {x : Nat} (hz : Good z own cc nL rm ret) (d : decode cc pc = .ok (.aload i, 2)) (j : Nat) (hj : lv[j]? = some (i, .ref x)) (h0 : Sim z (pc + 2) lv (.ref x :: st) M k n r K) : Sim z pc lv st M k n r K := by
  obtain ⟨g, p, l, e, R, s, m, args, below, meth, c, nLq, Q⟩ := z
  intro v0 M0 hr hK H locs ls hH hB hL hl
  exact lv_aload hz.1 hz.2.1 d (lv_at hl j hj) (h0 v0 M0 hr hK H locs ls hH hB hL hl)
theorem r_astore_n {i : Fin 4} {x : Nat} {lv' : List (Nat × Value)} (hz : Good z own cc nL rm ret) (d : decode cc pc = .ok (.astore_n i, 1)) (hn : (i : Nat) < nL) (hf : ((i : Nat), Value.ref x) :: lv.filter (fun q => !(q.1 == (i : Nat)) && !(q.1 + 1 == (i : Nat) && q.2.category == 2)) = lv') (h0 : Sim z (pc + 1) lv' st M k n r K) : Sim z pc lv (.ref x :: st) M k n r K := by
  obtain ⟨g, p, l, e, R, s, m, args, below, meth, c, nLq, Q⟩ := z
  intro v0 M0 hr hK H locs ls hH hB hL hl
  exact lv_astore_n hz.1 hz.2.1 d rfl hl (by rw [hz.2.2.2.2.2.2.2.1]; exact hn) hf (fun ls hl => h0 v0 M0 hr hK H locs ls hH hB hL hl)
theorem r_astore {i : Nat} {x : Nat} {lv' : List (Nat × Value)} (hz : Good z own cc nL rm ret) (d : decode cc pc = .ok (.astore i, 2)) (hn : i < nL) (hf : (i, Value.ref x) :: lv.filter (fun q => !(q.1 == i) && !(q.1 + 1 == i && q.2.category == 2)) = lv') (h0 : Sim z (pc + 2) lv' st M k n r K) : Sim z pc lv (.ref x :: st) M k n r K := by
  obtain ⟨g, p, l, e, R, s, m, args, below, meth, c, nLq, Q⟩ := z
  intro v0 M0 hr hK H locs ls hH hB hL hl
  exact lv_astore hz.1 hz.2.1 d hl (by rw [hz.2.2.2.2.2.2.2.1]; exact hn) hf (fun ls hl => h0 v0 M0 hr hK H locs ls hH hB hL hl)
theorem r_iinc {i : Nat} {j : Int} {x v : Int32} {lv' : List (Nat × Value)} (hz : Good z own cc nL rm ret) (d : decode cc pc = .ok (.iinc i j, 3)) (q : Nat) (hj : lv[q]? = some (i, .int x)) (hv : x + Int32.ofInt j = v) (hn : i < nL) (hf : (i, Value.int v) :: lv.filter (fun q => !(q.1 == i) && !(q.1 + 1 == i && q.2.category == 2)) = lv') (h0 : Sim z (pc + 3) lv' st M k n r K) : Sim z pc lv st M k n r K := by
  obtain ⟨g, p, l, e, R, s, m, args, below, meth, c, nLq, Q⟩ := z
  intro v0 M0 hr hK H locs ls hH hB hL hl
  exact lv_iinc hz.1 hz.2.1 d hl hj hv (by rw [hz.2.2.2.2.2.2.2.1]; exact hn) hf (fun ls hl => h0 v0 M0 hr hK H locs ls hH hB hL hl)
theorem r_iadd {x y : Int32} (hz : Good z own cc nL rm ret) (d : decode cc pc = .ok (.iadd, 1))  (h0 : Sim z (pc + 1) lv (.int (x + y) :: st) M k n r K) : Sim z pc lv (.int y :: .int x :: st) M k n r K := by
  obtain ⟨g, p, l, e, R, s, m, args, below, meth, c, nLq, Q⟩ := z
  intro v0 M0 hr hK H locs ls hH hB hL hl
  exact lv_iadd hz.1 hz.2.1 d  (h0 v0 M0 hr hK H locs ls hH hB hL hl)
theorem r_isub {x y : Int32} (hz : Good z own cc nL rm ret) (d : decode cc pc = .ok (.isub, 1))  (h0 : Sim z (pc + 1) lv (.int (x - y) :: st) M k n r K) : Sim z pc lv (.int y :: .int x :: st) M k n r K := by
  obtain ⟨g, p, l, e, R, s, m, args, below, meth, c, nLq, Q⟩ := z
  intro v0 M0 hr hK H locs ls hH hB hL hl
  exact lv_isub hz.1 hz.2.1 d  (h0 v0 M0 hr hK H locs ls hH hB hL hl)
theorem r_imul {x y : Int32} (hz : Good z own cc nL rm ret) (d : decode cc pc = .ok (.imul, 1))  (h0 : Sim z (pc + 1) lv (.int (x * y) :: st) M k n r K) : Sim z pc lv (.int y :: .int x :: st) M k n r K := by
  obtain ⟨g, p, l, e, R, s, m, args, below, meth, c, nLq, Q⟩ := z
  intro v0 M0 hr hK H locs ls hH hB hL hl
  exact lv_imul hz.1 hz.2.1 d  (h0 v0 M0 hr hK H locs ls hH hB hL hl)
theorem r_iand {x y : Int32} (hz : Good z own cc nL rm ret) (d : decode cc pc = .ok (.iand, 1))  (h0 : Sim z (pc + 1) lv (.int (x &&& y) :: st) M k n r K) : Sim z pc lv (.int y :: .int x :: st) M k n r K := by
  obtain ⟨g, p, l, e, R, s, m, args, below, meth, c, nLq, Q⟩ := z
  intro v0 M0 hr hK H locs ls hH hB hL hl
  exact lv_iand hz.1 hz.2.1 d  (h0 v0 M0 hr hK H locs ls hH hB hL hl)
theorem r_ior {x y : Int32} (hz : Good z own cc nL rm ret) (d : decode cc pc = .ok (.ior, 1))  (h0 : Sim z (pc + 1) lv (.int (x ||| y) :: st) M k n r K) : Sim z pc lv (.int y :: .int x :: st) M k n r K := by
  obtain ⟨g, p, l, e, R, s, m, args, below, meth, c, nLq, Q⟩ := z
  intro v0 M0 hr hK H locs ls hH hB hL hl
  exact lv_ior hz.1 hz.2.1 d  (h0 v0 M0 hr hK H locs ls hH hB hL hl)
theorem r_ixor {x y : Int32} (hz : Good z own cc nL rm ret) (d : decode cc pc = .ok (.ixor, 1))  (h0 : Sim z (pc + 1) lv (.int (x ^^^ y) :: st) M k n r K) : Sim z pc lv (.int y :: .int x :: st) M k n r K := by
  obtain ⟨g, p, l, e, R, s, m, args, below, meth, c, nLq, Q⟩ := z
  intro v0 M0 hr hK H locs ls hH hB hL hl
  exact lv_ixor hz.1 hz.2.1 d  (h0 v0 M0 hr hK H locs ls hH hB hL hl)
theorem r_ishl {x y : Int32} (hz : Good z own cc nL rm ret) (d : decode cc pc = .ok (.ishl, 1))  (h0 : Sim z (pc + 1) lv (.int (x <<< (y &&& 31)) :: st) M k n r K) : Sim z pc lv (.int y :: .int x :: st) M k n r K := by
  obtain ⟨g, p, l, e, R, s, m, args, below, meth, c, nLq, Q⟩ := z
  intro v0 M0 hr hK H locs ls hH hB hL hl
  exact lv_ishl hz.1 hz.2.1 d  (h0 v0 M0 hr hK H locs ls hH hB hL hl)
theorem r_ishr {x y : Int32} (hz : Good z own cc nL rm ret) (d : decode cc pc = .ok (.ishr, 1))  (h0 : Sim z (pc + 1) lv (.int (x >>> (y &&& 31)) :: st) M k n r K) : Sim z pc lv (.int y :: .int x :: st) M k n r K := by
  obtain ⟨g, p, l, e, R, s, m, args, below, meth, c, nLq, Q⟩ := z
  intro v0 M0 hr hK H locs ls hH hB hL hl
  exact lv_ishr hz.1 hz.2.1 d  (h0 v0 M0 hr hK H locs ls hH hB hL hl)
theorem r_ladd {x y : Int64} (hz : Good z own cc nL rm ret) (d : decode cc pc = .ok (.ladd, 1))  (h0 : Sim z (pc + 1) lv (.long (x + y) :: st) M k n r K) : Sim z pc lv (.long y :: .long x :: st) M k n r K := by
  obtain ⟨g, p, l, e, R, s, m, args, below, meth, c, nLq, Q⟩ := z
  intro v0 M0 hr hK H locs ls hH hB hL hl
  exact lv_ladd hz.1 hz.2.1 d  (h0 v0 M0 hr hK H locs ls hH hB hL hl)
theorem r_lsub {x y : Int64} (hz : Good z own cc nL rm ret) (d : decode cc pc = .ok (.lsub, 1))  (h0 : Sim z (pc + 1) lv (.long (x - y) :: st) M k n r K) : Sim z pc lv (.long y :: .long x :: st) M k n r K := by
  obtain ⟨g, p, l, e, R, s, m, args, below, meth, c, nLq, Q⟩ := z
  intro v0 M0 hr hK H locs ls hH hB hL hl
  exact lv_lsub hz.1 hz.2.1 d  (h0 v0 M0 hr hK H locs ls hH hB hL hl)
theorem r_lmul {x y : Int64} (hz : Good z own cc nL rm ret) (d : decode cc pc = .ok (.lmul, 1))  (h0 : Sim z (pc + 1) lv (.long (x * y) :: st) M k n r K) : Sim z pc lv (.long y :: .long x :: st) M k n r K := by
  obtain ⟨g, p, l, e, R, s, m, args, below, meth, c, nLq, Q⟩ := z
  intro v0 M0 hr hK H locs ls hH hB hL hl
  exact lv_lmul hz.1 hz.2.1 d  (h0 v0 M0 hr hK H locs ls hH hB hL hl)
theorem r_ineg {x : Int32} (hz : Good z own cc nL rm ret) (d : decode cc pc = .ok (.ineg, 1))  (h0 : Sim z (pc + 1) lv (.int (-x) :: st) M k n r K) : Sim z pc lv (.int x :: st) M k n r K := by
  obtain ⟨g, p, l, e, R, s, m, args, below, meth, c, nLq, Q⟩ := z
  intro v0 M0 hr hK H locs ls hH hB hL hl
  exact lv_ineg hz.1 hz.2.1 d  (h0 v0 M0 hr hK H locs ls hH hB hL hl)
theorem r_i2l {x : Int32} (hz : Good z own cc nL rm ret) (d : decode cc pc = .ok (.i2l, 1))  (h0 : Sim z (pc + 1) lv (.long x.toInt64 :: st) M k n r K) : Sim z pc lv (.int x :: st) M k n r K := by
  obtain ⟨g, p, l, e, R, s, m, args, below, meth, c, nLq, Q⟩ := z
  intro v0 M0 hr hK H locs ls hH hB hL hl
  exact lv_i2l hz.1 hz.2.1 d rfl (h0 v0 M0 hr hK H locs ls hH hB hL hl)
theorem r_l2i {x : Int64} (hz : Good z own cc nL rm ret) (d : decode cc pc = .ok (.l2i, 1))  (h0 : Sim z (pc + 1) lv (.int x.toInt32 :: st) M k n r K) : Sim z pc lv (.long x :: st) M k n r K := by
  obtain ⟨g, p, l, e, R, s, m, args, below, meth, c, nLq, Q⟩ := z
  intro v0 M0 hr hK H locs ls hH hB hL hl
  exact lv_l2i hz.1 hz.2.1 d rfl (h0 v0 M0 hr hK H locs ls hH hB hL hl)
theorem r_i2b {x : Int32} (hz : Good z own cc nL rm ret) (d : decode cc pc = .ok (.i2b, 1))  (h0 : Sim z (pc + 1) lv (.int x.toInt8.toInt32 :: st) M k n r K) : Sim z pc lv (.int x :: st) M k n r K := by
  obtain ⟨g, p, l, e, R, s, m, args, below, meth, c, nLq, Q⟩ := z
  intro v0 M0 hr hK H locs ls hH hB hL hl
  exact lv_i2b hz.1 hz.2.1 d rfl (h0 v0 M0 hr hK H locs ls hH hB hL hl)
theorem r_i2c {x : Int32} (hz : Good z own cc nL rm ret) (d : decode cc pc = .ok (.i2c, 1))  (h0 : Sim z (pc + 1) lv (.int (x.toUInt32 % 65536).toInt32 :: st) M k n r K) : Sim z pc lv (.int x :: st) M k n r K := by
  obtain ⟨g, p, l, e, R, s, m, args, below, meth, c, nLq, Q⟩ := z
  intro v0 M0 hr hK H locs ls hH hB hL hl
  exact lv_i2c hz.1 hz.2.1 d rfl (h0 v0 M0 hr hK H locs ls hH hB hL hl)
theorem r_iushr {x y : Int32} (hz : Good z own cc nL rm ret) (d : decode cc pc = .ok (.iushr, 1))  (h0 : Sim z (pc + 1) lv (.int (x.toUInt32 >>> (y.toUInt32 &&& Int32.toUInt32 31)).toInt32 :: st) M k n r K) : Sim z pc lv (.int y :: .int x :: st) M k n r K := by
  obtain ⟨g, p, l, e, R, s, m, args, below, meth, c, nLq, Q⟩ := z
  intro v0 M0 hr hK H locs ls hH hB hL hl
  exact lv_iushr hz.1 hz.2.1 d rfl (h0 v0 M0 hr hK H locs ls hH hB hL hl)
theorem r_idiv {x y : Int32} (hz : Good z own cc nL rm ret) (d : decode cc pc = .ok (.idiv, 1)) (h0 : Sim z (pc + 1) lv (.int (x / y) :: st) M k n r K) : Sim z pc lv (.int y :: .int x :: st) M k n (ck (¬ y = 0) r) K := by
  obtain ⟨g, p, l, e, R, s, m, args, below, meth, c, nLq, Q⟩ := z
  intro v0 M0 hr hK H locs ls hH hB hL hl
  exact lv_idiv hz.1 hz.2.1 d (ck_some hr).1 (h0 v0 M0 (ck_some hr).2 hK H locs ls hH hB hL hl)
theorem r_irem {x y : Int32} (hz : Good z own cc nL rm ret) (d : decode cc pc = .ok (.irem, 1)) (h0 : Sim z (pc + 1) lv (.int (x - x / y * y) :: st) M k n r K) : Sim z pc lv (.int y :: .int x :: st) M k n (ck (¬ y = 0) r) K := by
  obtain ⟨g, p, l, e, R, s, m, args, below, meth, c, nLq, Q⟩ := z
  intro v0 M0 hr hK H locs ls hH hB hL hl
  exact lv_irem hz.1 hz.2.1 d (ck_some hr).1 (h0 v0 M0 (ck_some hr).2 hK H locs ls hH hB hL hl)
theorem r_ldiv {x y : Int64} (hz : Good z own cc nL rm ret) (d : decode cc pc = .ok (.ldiv, 1)) (h0 : Sim z (pc + 1) lv (.long (x / y) :: st) M k n r K) : Sim z pc lv (.long y :: .long x :: st) M k n (ck (¬ y = 0) r) K := by
  obtain ⟨g, p, l, e, R, s, m, args, below, meth, c, nLq, Q⟩ := z
  intro v0 M0 hr hK H locs ls hH hB hL hl
  exact lv_ldiv hz.1 hz.2.1 d (ck_some hr).1 (h0 v0 M0 (ck_some hr).2 hK H locs ls hH hB hL hl)
theorem r_lrem {x y : Int64} (hz : Good z own cc nL rm ret) (d : decode cc pc = .ok (.lrem, 1)) (h0 : Sim z (pc + 1) lv (.long (x - x / y * y) :: st) M k n r K) : Sim z pc lv (.long y :: .long x :: st) M k n (ck (¬ y = 0) r) K := by
  obtain ⟨g, p, l, e, R, s, m, args, below, meth, c, nLq, Q⟩ := z
  intro v0 M0 hr hK H locs ls hH hB hL hl
  exact lv_lrem hz.1 hz.2.1 d (ck_some hr).1 (h0 v0 M0 (ck_some hr).2 hK H locs ls hH hB hL hl)
theorem r_dup {va : Value} (hz : Good z own cc nL rm ret) (d : decode cc pc = .ok (.dup, 1)) (hc : va.category = 1) (h0 : Sim z (pc + 1) lv (va :: va :: st) M k n r K) : Sim z pc lv (va :: st) M k n r K := by
  obtain ⟨g, p, l, e, R, s, m, args, below, meth, c, nLq, Q⟩ := z
  intro v0 M0 hr hK H locs ls hH hB hL hl
  exact lv_dup hz.1 hz.2.1 d hc (h0 v0 M0 hr hK H locs ls hH hB hL hl)
theorem r_pop {va : Value} (hz : Good z own cc nL rm ret) (d : decode cc pc = .ok (.pop, 1)) (hc : va.category = 1) (h0 : Sim z (pc + 1) lv st M k n r K) : Sim z pc lv (va :: st) M k n r K := by
  obtain ⟨g, p, l, e, R, s, m, args, below, meth, c, nLq, Q⟩ := z
  intro v0 M0 hr hK H locs ls hH hB hL hl
  exact lv_pop hz.1 hz.2.1 d hc (h0 v0 M0 hr hK H locs ls hH hB hL hl)
theorem r_dup2 {va vb : Value} (hz : Good z own cc nL rm ret) (d : decode cc pc = .ok (.dup2, 1)) (hc : va.category = 1) (hc2 : vb.category = 1) (h0 : Sim z (pc + 1) lv (va :: vb :: va :: vb :: st) M k n r K) : Sim z pc lv (va :: vb :: st) M k n r K := by
  obtain ⟨g, p, l, e, R, s, m, args, below, meth, c, nLq, Q⟩ := z
  intro v0 M0 hr hK H locs ls hH hB hL hl
  exact lv_dup2_11 hz.1 hz.2.1 d hc hc2 (h0 v0 M0 hr hK H locs ls hH hB hL hl)
theorem r_if_eq {x : Int32} {off : Int} {tgt : Nat} {r1 r2 : Option (α × Mm)} {dc : Decidable (x = 0)} (hz : Good z own cc nL rm ret) (d : decode cc pc = .ok (.ifCond .eq off, 3)) (ht : (pc : Int) + off = (tgt : Int)) (h1 : Sim z tgt lv st M k n r1 K) (h2 : Sim z (pc + 3) lv st M k n r2 K) : Sim z pc lv (.int x :: st) M k n (@ite _ (x = 0) dc r1 r2) K := by
  obtain ⟨g, p, l, e, R, s, m, args, below, meth, c, nLq, Q⟩ := z
  intro v0 M0 hr hK H locs ls hH hB hL hl
  refine lv_if_eq hz.1 hz.2.1 d ht (fun q => ?_) (fun q => ?_)
  · rw [if_pos q] at hr
    exact h1 v0 M0 hr hK H locs ls hH hB hL hl
  · rw [if_neg (by first | exact q | exact fun w => w q)] at hr
    exact h2 v0 M0 hr hK H locs ls hH hB hL hl
theorem r_icmp_eq {x y : Int32} {off : Int} {tgt : Nat} {r1 r2 : Option (α × Mm)} {dc : Decidable (x = y)} (hz : Good z own cc nL rm ret) (d : decode cc pc = .ok (.if_icmp .eq off, 3)) (ht : (pc : Int) + off = (tgt : Int)) (h1 : Sim z tgt lv st M k n r1 K) (h2 : Sim z (pc + 3) lv st M k n r2 K) : Sim z pc lv (.int y :: .int x :: st) M k n (@ite _ (x = y) dc r1 r2) K := by
  obtain ⟨g, p, l, e, R, s, m, args, below, meth, c, nLq, Q⟩ := z
  intro v0 M0 hr hK H locs ls hH hB hL hl
  refine lv_icmp_eq hz.1 hz.2.1 d ht (fun q => ?_) (fun q => ?_)
  · rw [if_pos q] at hr
    exact h1 v0 M0 hr hK H locs ls hH hB hL hl
  · rw [if_neg (by first | exact q | exact fun w => w q)] at hr
    exact h2 v0 M0 hr hK H locs ls hH hB hL hl
theorem r_if_ne {x : Int32} {off : Int} {tgt : Nat} {r1 r2 : Option (α × Mm)} {dc : Decidable (¬ x = 0)} (hz : Good z own cc nL rm ret) (d : decode cc pc = .ok (.ifCond .ne off, 3)) (ht : (pc : Int) + off = (tgt : Int)) (h1 : Sim z tgt lv st M k n r1 K) (h2 : Sim z (pc + 3) lv st M k n r2 K) : Sim z pc lv (.int x :: st) M k n (@ite _ (¬ x = 0) dc r1 r2) K := by
  obtain ⟨g, p, l, e, R, s, m, args, below, meth, c, nLq, Q⟩ := z
  intro v0 M0 hr hK H locs ls hH hB hL hl
  refine lv_if_ne hz.1 hz.2.1 d ht (fun q => ?_) (fun q => ?_)
  · rw [if_pos q] at hr
    exact h1 v0 M0 hr hK H locs ls hH hB hL hl
  · rw [if_neg (by first | exact q | exact fun w => w q)] at hr
    exact h2 v0 M0 hr hK H locs ls hH hB hL hl
theorem r_icmp_ne {x y : Int32} {off : Int} {tgt : Nat} {r1 r2 : Option (α × Mm)} {dc : Decidable (¬ x = y)} (hz : Good z own cc nL rm ret) (d : decode cc pc = .ok (.if_icmp .ne off, 3)) (ht : (pc : Int) + off = (tgt : Int)) (h1 : Sim z tgt lv st M k n r1 K) (h2 : Sim z (pc + 3) lv st M k n r2 K) : Sim z pc lv (.int y :: .int x :: st) M k n (@ite _ (¬ x = y) dc r1 r2) K := by
  obtain ⟨g, p, l, e, R, s, m, args, below, meth, c, nLq, Q⟩ := z
  intro v0 M0 hr hK H locs ls hH hB hL hl
  refine lv_icmp_ne hz.1 hz.2.1 d ht (fun q => ?_) (fun q => ?_)
  · rw [if_pos q] at hr
    exact h1 v0 M0 hr hK H locs ls hH hB hL hl
  · rw [if_neg (by first | exact q | exact fun w => w q)] at hr
    exact h2 v0 M0 hr hK H locs ls hH hB hL hl
theorem r_if_lt {x : Int32} {off : Int} {tgt : Nat} {r1 r2 : Option (α × Mm)} {dc : Decidable (x < 0)} (hz : Good z own cc nL rm ret) (d : decode cc pc = .ok (.ifCond .lt off, 3)) (ht : (pc : Int) + off = (tgt : Int)) (h1 : Sim z tgt lv st M k n r1 K) (h2 : Sim z (pc + 3) lv st M k n r2 K) : Sim z pc lv (.int x :: st) M k n (@ite _ (x < 0) dc r1 r2) K := by
  obtain ⟨g, p, l, e, R, s, m, args, below, meth, c, nLq, Q⟩ := z
  intro v0 M0 hr hK H locs ls hH hB hL hl
  refine lv_if_lt hz.1 hz.2.1 d ht (fun q => ?_) (fun q => ?_)
  · rw [if_pos q] at hr
    exact h1 v0 M0 hr hK H locs ls hH hB hL hl
  · rw [if_neg (by first | exact q | exact fun w => w q)] at hr
    exact h2 v0 M0 hr hK H locs ls hH hB hL hl
theorem r_icmp_lt {x y : Int32} {off : Int} {tgt : Nat} {r1 r2 : Option (α × Mm)} {dc : Decidable (x < y)} (hz : Good z own cc nL rm ret) (d : decode cc pc = .ok (.if_icmp .lt off, 3)) (ht : (pc : Int) + off = (tgt : Int)) (h1 : Sim z tgt lv st M k n r1 K) (h2 : Sim z (pc + 3) lv st M k n r2 K) : Sim z pc lv (.int y :: .int x :: st) M k n (@ite _ (x < y) dc r1 r2) K := by
  obtain ⟨g, p, l, e, R, s, m, args, below, meth, c, nLq, Q⟩ := z
  intro v0 M0 hr hK H locs ls hH hB hL hl
  refine lv_icmp_lt hz.1 hz.2.1 d ht (fun q => ?_) (fun q => ?_)
  · rw [if_pos q] at hr
    exact h1 v0 M0 hr hK H locs ls hH hB hL hl
  · rw [if_neg (by first | exact q | exact fun w => w q)] at hr
    exact h2 v0 M0 hr hK H locs ls hH hB hL hl
theorem r_if_ge {x : Int32} {off : Int} {tgt : Nat} {r1 r2 : Option (α × Mm)} {dc : Decidable (0 ≤ x)} (hz : Good z own cc nL rm ret) (d : decode cc pc = .ok (.ifCond .ge off, 3)) (ht : (pc : Int) + off = (tgt : Int)) (h1 : Sim z tgt lv st M k n r1 K) (h2 : Sim z (pc + 3) lv st M k n r2 K) : Sim z pc lv (.int x :: st) M k n (@ite _ (0 ≤ x) dc r1 r2) K := by
  obtain ⟨g, p, l, e, R, s, m, args, below, meth, c, nLq, Q⟩ := z
  intro v0 M0 hr hK H locs ls hH hB hL hl
  refine lv_if_ge hz.1 hz.2.1 d ht (fun q => ?_) (fun q => ?_)
  · rw [if_pos q] at hr
    exact h1 v0 M0 hr hK H locs ls hH hB hL hl
  · rw [if_neg (by first | exact q | exact fun w => w q)] at hr
    exact h2 v0 M0 hr hK H locs ls hH hB hL hl
theorem r_icmp_ge {x y : Int32} {off : Int} {tgt : Nat} {r1 r2 : Option (α × Mm)} {dc : Decidable (y ≤ x)} (hz : Good z own cc nL rm ret) (d : decode cc pc = .ok (.if_icmp .ge off, 3)) (ht : (pc : Int) + off = (tgt : Int)) (h1 : Sim z tgt lv st M k n r1 K) (h2 : Sim z (pc + 3) lv st M k n r2 K) : Sim z pc lv (.int y :: .int x :: st) M k n (@ite _ (y ≤ x) dc r1 r2) K := by
  obtain ⟨g, p, l, e, R, s, m, args, below, meth, c, nLq, Q⟩ := z
  intro v0 M0 hr hK H locs ls hH hB hL hl
  refine lv_icmp_ge hz.1 hz.2.1 d ht (fun q => ?_) (fun q => ?_)
  · rw [if_pos q] at hr
    exact h1 v0 M0 hr hK H locs ls hH hB hL hl
  · rw [if_neg (by first | exact q | exact fun w => w q)] at hr
    exact h2 v0 M0 hr hK H locs ls hH hB hL hl
theorem r_if_gt {x : Int32} {off : Int} {tgt : Nat} {r1 r2 : Option (α × Mm)} {dc : Decidable (0 < x)} (hz : Good z own cc nL rm ret) (d : decode cc pc = .ok (.ifCond .gt off, 3)) (ht : (pc : Int) + off = (tgt : Int)) (h1 : Sim z tgt lv st M k n r1 K) (h2 : Sim z (pc + 3) lv st M k n r2 K) : Sim z pc lv (.int x :: st) M k n (@ite _ (0 < x) dc r1 r2) K := by
  obtain ⟨g, p, l, e, R, s, m, args, below, meth, c, nLq, Q⟩ := z
  intro v0 M0 hr hK H locs ls hH hB hL hl
  refine lv_if_gt hz.1 hz.2.1 d ht (fun q => ?_) (fun q => ?_)
  · rw [if_pos q] at hr
    exact h1 v0 M0 hr hK H locs ls hH hB hL hl
  · rw [if_neg (by first | exact q | exact fun w => w q)] at hr
    exact h2 v0 M0 hr hK H locs ls hH hB hL hl
theorem r_icmp_gt {x y : Int32} {off : Int} {tgt : Nat} {r1 r2 : Option (α × Mm)} {dc : Decidable (y < x)} (hz : Good z own cc nL rm ret) (d : decode cc pc = .ok (.if_icmp .gt off, 3)) (ht : (pc : Int) + off = (tgt : Int)) (h1 : Sim z tgt lv st M k n r1 K) (h2 : Sim z (pc + 3) lv st M k n r2 K) : Sim z pc lv (.int y :: .int x :: st) M k n (@ite _ (y < x) dc r1 r2) K := by
  obtain ⟨g, p, l, e, R, s, m, args, below, meth, c, nLq, Q⟩ := z
  intro v0 M0 hr hK H locs ls hH hB hL hl
  refine lv_icmp_gt hz.1 hz.2.1 d ht (fun q => ?_) (fun q => ?_)
  · rw [if_pos q] at hr
    exact h1 v0 M0 hr hK H locs ls hH hB hL hl
  · rw [if_neg (by first | exact q | exact fun w => w q)] at hr
    exact h2 v0 M0 hr hK H locs ls hH hB hL hl
theorem r_if_le {x : Int32} {off : Int} {tgt : Nat} {r1 r2 : Option (α × Mm)} {dc : Decidable (x ≤ 0)} (hz : Good z own cc nL rm ret) (d : decode cc pc = .ok (.ifCond .le off, 3)) (ht : (pc : Int) + off = (tgt : Int)) (h1 : Sim z tgt lv st M k n r1 K) (h2 : Sim z (pc + 3) lv st M k n r2 K) : Sim z pc lv (.int x :: st) M k n (@ite _ (x ≤ 0) dc r1 r2) K := by
  obtain ⟨g, p, l, e, R, s, m, args, below, meth, c, nLq, Q⟩ := z
  intro v0 M0 hr hK H locs ls hH hB hL hl
  refine lv_if_le hz.1 hz.2.1 d ht (fun q => ?_) (fun q => ?_)
  · rw [if_pos q] at hr
    exact h1 v0 M0 hr hK H locs ls hH hB hL hl
  · rw [if_neg (by first | exact q | exact fun w => w q)] at hr
    exact h2 v0 M0 hr hK H locs ls hH hB hL hl
theorem r_icmp_le {x y : Int32} {off : Int} {tgt : Nat} {r1 r2 : Option (α × Mm)} {dc : Decidable (x ≤ y)} (hz : Good z own cc nL rm ret) (d : decode cc pc = .ok (.if_icmp .le off, 3)) (ht : (pc : Int) + off = (tgt : Int)) (h1 : Sim z tgt lv st M k n r1 K) (h2 : Sim z (pc + 3) lv st M k n r2 K) : Sim z pc lv (.int y :: .int x :: st) M k n (@ite _ (x ≤ y) dc r1 r2) K := by
  obtain ⟨g, p, l, e, R, s, m, args, below, meth, c, nLq, Q⟩ := z
  intro v0 M0 hr hK H locs ls hH hB hL hl
  refine lv_icmp_le hz.1 hz.2.1 d ht (fun q => ?_) (fun q => ?_)
  · rw [if_pos q] at hr
    exact h1 v0 M0 hr hK H locs ls hH hB hL hl
  · rw [if_neg (by first | exact q | exact fun w => w q)] at hr
    exact h2 v0 M0 hr hK H locs ls hH hB hL hl
theorem r_goto {off : Int} {tgt : Nat} (hz : Good z own cc nL rm ret) (d : decode cc pc = .ok (.goto off, 3)) (ht : (pc : Int) + off = (tgt : Int)) (h0 : Sim z tgt lv st M k n r K) : Sim z pc lv st M k n r K := by
  obtain ⟨g, p, l, e, R, s, m, args, below, meth, c, nLq, Q⟩ := z
  intro v0 M0 hr hK H locs ls hH hB hL hl
  exact lv_goto hz.1 hz.2.1 d ht (h0 v0 M0 hr hK H locs ls hH hB hL hl)
theorem lc_lt (x y : Int64) : lg_cmp x y < 0 ↔ x < y := by
  unfold lg_cmp
  by_cases h : y < x
  · have h2 : ¬ x < y := Int64.not_lt.mpr (Int64.le_of_lt h)
    simp [h, h2]
  · by_cases h3 : x = y
    · subst h3; simp
    · have h4 : x < y := Int64.lt_of_le_of_ne (Int64.not_lt.mp h) h3
      simp [h, h3, h4]
theorem lc_eq (x y : Int64) : lg_cmp x y = 0 ↔ x = y := by
  unfold lg_cmp
  by_cases h : y < x
  · have h2 : ¬ x = y := fun e => by subst e; exact Int64.lt_irrefl h
    simp [h, h2]
  · by_cases h3 : x = y
    · subst h3; simp
    · simp [h, h3]
theorem lc_gt (x y : Int64) : 0 < lg_cmp x y ↔ y < x := by
  unfold lg_cmp
  by_cases h : y < x
  · simp [h]
  · by_cases h3 : x = y
    · subst h3; simp
    · simp [h, h3]
theorem lc_le (x y : Int64) : lg_cmp x y ≤ 0 ↔ x ≤ y := by
  rw [← Int32.not_lt, lc_gt, Int64.not_lt]
theorem lc_ge (x y : Int64) : 0 ≤ lg_cmp x y ↔ y ≤ x := by
  rw [← Int32.not_lt, lc_lt, Int64.not_lt]
theorem r_lcmp_eq {x y : Int64} {off : Int} {tgt : Nat} {r1 r2 : Option (α × Mm)} {dc : Decidable (x = y)} (hz : Good z own cc nL rm ret) (d0 : decode cc pc = .ok (.lcmp, 1)) (d : decode cc (pc + 1) = .ok (.ifCond .eq off, 3)) (ht : ((pc + 1 : Nat) : Int) + off = (tgt : Int)) (h1 : Sim z tgt lv st M k n r1 K) (h2 : Sim z (pc + 1 + 3) lv st M k n r2 K) : Sim z pc lv (.long y :: .long x :: st) M k n (@ite _ (x = y) dc r1 r2) K := by
  obtain ⟨g, p, l, e, R, s, m, args, below, meth, c, nLq, Q⟩ := z
  intro v0 M0 hr hK H locs ls hH hB hL hl
  refine W.lcmp hz.1 hz.2.1 d0 ?_
  refine lv_if_eq hz.1 hz.2.1 d ht (fun q => ?_) (fun q => ?_)
  · rw [if_pos ((lc_eq x y).mp q)] at hr
    exact h1 v0 M0 hr hK H locs ls hH hB hL hl
  · rw [if_neg (fun w => q ((lc_eq x y).mpr w))] at hr
    exact h2 v0 M0 hr hK H locs ls hH hB hL hl
theorem r_lcmp_ne {x y : Int64} {off : Int} {tgt : Nat} {r1 r2 : Option (α × Mm)} {dc : Decidable (¬ x = y)} (hz : Good z own cc nL rm ret) (d0 : decode cc pc = .ok (.lcmp, 1)) (d : decode cc (pc + 1) = .ok (.ifCond .ne off, 3)) (ht : ((pc + 1 : Nat) : Int) + off = (tgt : Int)) (h1 : Sim z tgt lv st M k n r1 K) (h2 : Sim z (pc + 1 + 3) lv st M k n r2 K) : Sim z pc lv (.long y :: .long x :: st) M k n (@ite _ (¬ x = y) dc r1 r2) K := by
  obtain ⟨g, p, l, e, R, s, m, args, below, meth, c, nLq, Q⟩ := z
  intro v0 M0 hr hK H locs ls hH hB hL hl
  refine W.lcmp hz.1 hz.2.1 d0 ?_
  refine lv_if_ne hz.1 hz.2.1 d ht (fun q => ?_) (fun q => ?_)
  · rw [if_pos (fun w => q ((lc_eq x y).mpr w))] at hr
    exact h1 v0 M0 hr hK H locs ls hH hB hL hl
  · rw [if_neg (fun w => w ((lc_eq x y).mp q))] at hr
    exact h2 v0 M0 hr hK H locs ls hH hB hL hl
theorem r_lcmp_lt {x y : Int64} {off : Int} {tgt : Nat} {r1 r2 : Option (α × Mm)} {dc : Decidable (x < y)} (hz : Good z own cc nL rm ret) (d0 : decode cc pc = .ok (.lcmp, 1)) (d : decode cc (pc + 1) = .ok (.ifCond .lt off, 3)) (ht : ((pc + 1 : Nat) : Int) + off = (tgt : Int)) (h1 : Sim z tgt lv st M k n r1 K) (h2 : Sim z (pc + 1 + 3) lv st M k n r2 K) : Sim z pc lv (.long y :: .long x :: st) M k n (@ite _ (x < y) dc r1 r2) K := by
  obtain ⟨g, p, l, e, R, s, m, args, below, meth, c, nLq, Q⟩ := z
  intro v0 M0 hr hK H locs ls hH hB hL hl
  refine W.lcmp hz.1 hz.2.1 d0 ?_
  refine lv_if_lt hz.1 hz.2.1 d ht (fun q => ?_) (fun q => ?_)
  · rw [if_pos ((lc_lt x y).mp q)] at hr
    exact h1 v0 M0 hr hK H locs ls hH hB hL hl
  · rw [if_neg (fun w => q ((lc_lt x y).mpr w))] at hr
    exact h2 v0 M0 hr hK H locs ls hH hB hL hl
theorem r_lcmp_ge {x y : Int64} {off : Int} {tgt : Nat} {r1 r2 : Option (α × Mm)} {dc : Decidable (y ≤ x)} (hz : Good z own cc nL rm ret) (d0 : decode cc pc = .ok (.lcmp, 1)) (d : decode cc (pc + 1) = .ok (.ifCond .ge off, 3)) (ht : ((pc + 1 : Nat) : Int) + off = (tgt : Int)) (h1 : Sim z tgt lv st M k n r1 K) (h2 : Sim z (pc + 1 + 3) lv st M k n r2 K) : Sim z pc lv (.long y :: .long x :: st) M k n (@ite _ (y ≤ x) dc r1 r2) K := by
  obtain ⟨g, p, l, e, R, s, m, args, below, meth, c, nLq, Q⟩ := z
  intro v0 M0 hr hK H locs ls hH hB hL hl
  refine W.lcmp hz.1 hz.2.1 d0 ?_
  refine lv_if_ge hz.1 hz.2.1 d ht (fun q => ?_) (fun q => ?_)
  · rw [if_pos ((lc_ge x y).mp q)] at hr
    exact h1 v0 M0 hr hK H locs ls hH hB hL hl
  · rw [if_neg (fun w => q ((lc_ge x y).mpr w))] at hr
    exact h2 v0 M0 hr hK H locs ls hH hB hL hl
theorem r_lcmp_gt {x y : Int64} {off : Int} {tgt : Nat} {r1 r2 : Option (α × Mm)} {dc : Decidable (y < x)} (hz : Good z own cc nL rm ret) (d0 : decode cc pc = .ok (.lcmp, 1)) (d : decode cc (pc + 1) = .ok (.ifCond .gt off, 3)) (ht : ((pc + 1 : Nat) : Int) + off = (tgt : Int)) (h1 : Sim z tgt lv st M k n r1 K) (h2 : Sim z (pc + 1 + 3) lv st M k n r2 K) : Sim z pc lv (.long y :: .long x :: st) M k n (@ite _ (y < x) dc r1 r2) K := by
  obtain ⟨g, p, l, e, R, s, m, args, below, meth, c, nLq, Q⟩ := z
  intro v0 M0 hr hK H locs ls hH hB hL hl
  refine W.lcmp hz.1 hz.2.1 d0 ?_
  refine lv_if_gt hz.1 hz.2.1 d ht (fun q => ?_) (fun q => ?_)
  · rw [if_pos ((lc_gt x y).mp q)] at hr
    exact h1 v0 M0 hr hK H locs ls hH hB hL hl
  · rw [if_neg (fun w => q ((lc_gt x y).mpr w))] at hr
    exact h2 v0 M0 hr hK H locs ls hH hB hL hl
theorem r_lcmp_le {x y : Int64} {off : Int} {tgt : Nat} {r1 r2 : Option (α × Mm)} {dc : Decidable (x ≤ y)} (hz : Good z own cc nL rm ret) (d0 : decode cc pc = .ok (.lcmp, 1)) (d : decode cc (pc + 1) = .ok (.ifCond .le off, 3)) (ht : ((pc + 1 : Nat) : Int) + off = (tgt : Int)) (h1 : Sim z tgt lv st M k n r1 K) (h2 : Sim z (pc + 1 + 3) lv st M k n r2 K) : Sim z pc lv (.long y :: .long x :: st) M k n (@ite _ (x ≤ y) dc r1 r2) K := by
  obtain ⟨g, p, l, e, R, s, m, args, below, meth, c, nLq, Q⟩ := z
  intro v0 M0 hr hK H locs ls hH hB hL hl
  refine W.lcmp hz.1 hz.2.1 d0 ?_
  refine lv_if_le hz.1 hz.2.1 d ht (fun q => ?_) (fun q => ?_)
  · rw [if_pos ((lc_le x y).mp q)] at hr
    exact h1 v0 M0 hr hK H locs ls hH hB hL hl
  · rw [if_neg (fun w => q ((lc_le x y).mpr w))] at hr
    exact h2 v0 M0 hr hK H locs ls hH hB hL hl
theorem r_sub {lv' : List (Nat × Value)} (ks : List Nat) (hp : lv_pick lv ks = lv') (h0 : Sim z pc lv' st M k n r K) : Sim z pc lv st M k n r K := by
  obtain ⟨g, p, l, e, R, s, m, args, below, meth, c, nLq, Q⟩ := z
  intro v0 M0 hr hK H locs ls hH hB hL hl
  exact h0 v0 M0 hr hK H locs ls hH hB hL (lv_sub hl ks hp)
theorem r_nm {β : Type} {x : β} {f : β → Option (α × Mm)} {sf : β → List Value} (h0 : ∀ y, Sim z pc lv (sf y) M k n (f y) K) : Sim z pc lv (sf x) M k n (nm x f) K := h0 x
theorem r_ck {c : Prop} {dc : Decidable c} (h0 : c → Sim z pc lv st M k n r K) : Sim z pc lv st M k n (ck c r) K := fun v0 M0 hr hK => h0 (ck_some hr).1 v0 M0 (ck_some hr).2 hK
theorem r_done {x : α} (h0 : K x M → Cfg z pc lv st M k n) : Sim z pc lv st M k n (some (x, M)) K := fun v0 M0 hr hK => by cases hr; exact h0 hK
theorem r_none : Sim z pc lv st M k n (none : Option (α × Mm)) K := fun v0 M0 hr _ => by cases hr
theorem r_bd {β : Type} {rb : Option (β × Mm)} {f : β → Mm → Option (α × Mm)} {pc2 : Nat} {lv2 : β → List (Nat × Value)} {st2 : List Value} (h1 : ∀ K2 : β → Mm → Prop, (∀ x M2, K2 x M2 → Cfg z pc2 (lv2 x) st2 M2 k n) → Sim z pc lv st M k n rb K2) (h2 : ∀ x M2, Sim z pc2 (lv2 x) st2 M2 k n (f x M2) K) : Sim z pc lv st M k n (bd rb f) K := fun v0 M0 hr hK => by
  obtain ⟨y, M1, e1, e2⟩ := bd_some hr
  exact h1 (fun x M2 => Cfg z pc2 (lv2 x) st2 M2 k n) (fun _ _ h => h) y M1 e1 (h2 y M1 v0 M0 e2 hK)
end ROWS
