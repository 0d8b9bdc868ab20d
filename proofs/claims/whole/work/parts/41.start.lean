theorem lt_t1 {w : Cond} (i : Nat) (h : tables_1_1[i]? = some w) : w ∈ lw_tbl := List.mem_append_right _ (List.mem_append_left _ (List.mem_of_getElem? h))
theorem lt_t2 {w : Cond} (i : Nat) (h : tables_1_2[i]? = some w) : w ∈ lw_tbl := List.mem_append_right _ (List.mem_append_right _ (List.mem_append_left _ (List.mem_of_getElem? h)))
theorem lt_t3 {w : Cond} (i : Nat) (h : tables_1_3[i]? = some w) : w ∈ lw_tbl := List.mem_append_right _ (List.mem_append_right _ (List.mem_append_right _ (List.mem_append_left _ (List.mem_of_getElem? h))))
theorem lt_t4 {w : Cond} (i : Nat) (h : tables_1_4[i]? = some w) : w ∈ lw_tbl := List.mem_append_right _ (List.mem_append_right _ (List.mem_append_right _ (List.mem_append_right _ (List.mem_append_left _ (List.mem_of_getElem? h)))))
theorem lt_t5 {w : Cond} (i : Nat) (h : tables_1_5[i]? = some w) : w ∈ lw_tbl := List.mem_append_right _ (List.mem_append_right _ (List.mem_append_right _ (List.mem_append_right _ (List.mem_append_right _ (List.mem_append_left _ (List.mem_of_getElem? h))))))
theorem lt_t6 {w : Cond} (i : Nat) (h : tables_1_6[i]? = some w) : w ∈ lw_tbl := List.mem_append_right _ (List.mem_append_right _ (List.mem_append_right _ (List.mem_append_right _ (List.mem_append_right _ (List.mem_append_right _ (List.mem_append_left _ (List.mem_of_getElem? h)))))))
theorem lt_t7 {w : Cond} (i : Nat) (h : tables_1_7[i]? = some w) : w ∈ lw_tbl := List.mem_append_right _ (List.mem_append_right _ (List.mem_append_right _ (List.mem_append_right _ (List.mem_append_right _ (List.mem_append_right _ (List.mem_append_right _ (List.mem_of_getElem? h)))))))
def fl1 : List Cond := flatC (Jvm.Cond.and given_1 narrow_1)
def tmS (i : Nat) : Term := match srL[i]? with
  | some q => .string q.1 q.2.1
  | none => .arg 0
theorem fs_ex : ∀ i : Nat, i < 16 → Cond.exactly (tmS i) "java/lang/String" ∈ fl1 := by decide +kernel
theorem fs_co : ∀ i : Nat, i < 16 → Cond.eq (.field (tmS i) "java/lang/String" "coder" "B") (.int 0) ∈ fl1 := by decide +kernel
theorem fs_ar : ∀ i : Nat, i < 16 → Cond.arrayOf (.field (tmS i) "java/lang/String" "value" "[B") .byte ∈ fl1 := by decide +kernel
theorem fs_le : ∀ i : Nat, i < 16 → Cond.eq (.length (.field (tmS i) "java/lang/String" "value" "[B")) (.int (Int32.ofNat (snL.getD i 0))) ∈ fl1 := by decide +kernel
theorem fs_el : ∀ i : Nat, i < 16 → ∀ j : Nat, j < snL.getD i 0 → Cond.eq (.elem (.field (tmS i) "java/lang/String" "value" "[B") (.int (Int32.ofNat j))) (.int ((sbL.getD i []).getD j 0)) ∈ fl1 := by decide +kernel
theorem fs_n1 : ∀ i : Nat, i < 1 → Cond.not (Cond.eq (tmS i) (tmS 1)) ∈ fl1 := by decide +kernel
theorem fs_n2 : ∀ i : Nat, i < 2 → Cond.not (Cond.eq (tmS i) (tmS 2)) ∈ fl1 := by decide +kernel
theorem fs_n3 : ∀ i : Nat, i < 3 → Cond.not (Cond.eq (tmS i) (tmS 3)) ∈ fl1 := by decide +kernel
theorem fs_n4 : ∀ i : Nat, i < 4 → Cond.not (Cond.eq (tmS i) (tmS 4)) ∈ fl1 := by decide +kernel
theorem fs_n5 : ∀ i : Nat, i < 5 → Cond.not (Cond.eq (tmS i) (tmS 5)) ∈ fl1 := by decide +kernel
theorem fs_n6 : ∀ i : Nat, i < 6 → Cond.not (Cond.eq (tmS i) (tmS 6)) ∈ fl1 := by decide +kernel
theorem fs_n7 : ∀ i : Nat, i < 7 → Cond.not (Cond.eq (tmS i) (tmS 7)) ∈ fl1 := by decide +kernel
theorem fs_n8 : ∀ i : Nat, i < 8 → Cond.not (Cond.eq (tmS i) (tmS 8)) ∈ fl1 := by decide +kernel
theorem fs_n9 : ∀ i : Nat, i < 9 → Cond.not (Cond.eq (tmS i) (tmS 9)) ∈ fl1 := by decide +kernel
theorem fs_n10 : ∀ i : Nat, i < 10 → Cond.not (Cond.eq (tmS i) (tmS 10)) ∈ fl1 := by decide +kernel
theorem fs_n11 : ∀ i : Nat, i < 11 → Cond.not (Cond.eq (tmS i) (tmS 11)) ∈ fl1 := by decide +kernel
theorem fs_n12 : ∀ i : Nat, i < 12 → Cond.not (Cond.eq (tmS i) (tmS 12)) ∈ fl1 := by decide +kernel
theorem fs_n13 : ∀ i : Nat, i < 13 → Cond.not (Cond.eq (tmS i) (tmS 13)) ∈ fl1 := by decide +kernel
theorem fs_n14 : ∀ i : Nat, i < 14 → Cond.not (Cond.eq (tmS i) (tmS 14)) ∈ fl1 := by decide +kernel
theorem fs_n15 : ∀ i : Nat, i < 15 → Cond.not (Cond.eq (tmS i) (tmS 15)) ∈ fl1 := by decide +kernel
theorem fs_nl : ∀ j : Nat, j < 16 → ∀ i : Nat, i < j → Cond.not (Cond.eq (tmS i) (tmS j)) ∈ fl1 := by
  intro j hj i hi
  match j, hj, hi with
  | 1, _, hi => exact fs_n1 i hi
  | 2, _, hi => exact fs_n2 i hi
  | 3, _, hi => exact fs_n3 i hi
  | 4, _, hi => exact fs_n4 i hi
  | 5, _, hi => exact fs_n5 i hi
  | 6, _, hi => exact fs_n6 i hi
  | 7, _, hi => exact fs_n7 i hi
  | 8, _, hi => exact fs_n8 i hi
  | 9, _, hi => exact fs_n9 i hi
  | 10, _, hi => exact fs_n10 i hi
  | 11, _, hi => exact fs_n11 i hi
  | 12, _, hi => exact fs_n12 i hi
  | 13, _, hi => exact fs_n13 i hi
  | 14, _, hi => exact fs_n14 i hi
  | 15, _, hi => exact fs_n15 i hi
  | k + 16, hj, _ => omega
theorem fs_ne : ∀ i : Nat, i < 16 → ∀ j : Nat, j < 16 → i ≠ j → Cond.not (Cond.eq (tmS i) (tmS j)) ∈ fl1 ∨ Cond.not (Cond.eq (tmS j) (tmS i)) ∈ fl1 := by
  intro i hi j hj hn
  rcases Nat.lt_or_gt_of_ne hn with h | h
  · exact Or.inl (fs_nl j hj i h)
  · exact Or.inr (fs_nl i hi j h)
theorem fs_st : ∀ q ∈ stL, Cond.eq (.static "DrawnBondsModel" q.1 "I") (.int q.2) ∈ fl1 := by decide +kernel
theorem fs_cs : Cond.eq (.static "java/lang/String" "COMPACT_STRINGS" "Z") (.int 1) ∈ fl1 := by decide +kernel
theorem fs_fo : Cond.isRef (.static "jdk/internal/util/Preconditions" "SIOOBE_FORMATTER" "Ljava/util/function/BiFunction;") ∈ fl1 := by decide +kernel
theorem fs_us : Cond.isRef (.static Bundle.tN "UNASSIGNED_STACK" Bundle.steD) ∈ fl1 := by decide +kernel
theorem fs_ss : Cond.isRef (.static Bundle.tN "SUPPRESSED_SENTINEL" Bundle.listD) ∈ fl1 := by decide +kernel
theorem ft_st : ∀ q ∈ stL, Cond.laysStatic "DrawnBondsModel" q.1 "I" ∈ lw_tbl := by
  unfold stL
  exact List.forall_mem_cons.mpr ⟨lt_t5 195 rfl, List.forall_mem_cons.mpr ⟨lt_t5 221 rfl, List.forall_mem_cons.mpr ⟨lt_t5 223 rfl, List.forall_mem_cons.mpr ⟨lt_t5 225 rfl, List.forall_mem_cons.mpr ⟨lt_t5 227 rfl, List.forall_mem_cons.mpr ⟨lt_t5 229 rfl, List.forall_mem_cons.mpr ⟨lt_t5 231 rfl, List.forall_mem_cons.mpr ⟨lt_t5 233 rfl, List.forall_mem_cons.mpr ⟨lt_t5 235 rfl, List.forall_mem_cons.mpr ⟨lt_t5 237 rfl, List.forall_mem_cons.mpr ⟨lt_t5 239 rfl, List.forall_mem_cons.mpr ⟨lt_t6 1 rfl, List.forall_mem_cons.mpr ⟨lt_t6 3 rfl, List.forall_mem_cons.mpr ⟨lt_t6 5 rfl, fun _ h => absurd h List.not_mem_nil⟩⟩⟩⟩⟩⟩⟩⟩⟩⟩⟩⟩⟩⟩
theorem ft_sr : ∀ q ∈ srL, Cond.stringRef q.1 q.2.1 q.2.2 ∈ lw_tbl := by
  unfold srL
  exact List.forall_mem_cons.mpr ⟨lt_t2 178 rfl, List.forall_mem_cons.mpr ⟨lt_t3 7 rfl, List.forall_mem_cons.mpr ⟨lt_t3 8 rfl, List.forall_mem_cons.mpr ⟨lt_t3 9 rfl, List.forall_mem_cons.mpr ⟨lt_t3 10 rfl, List.forall_mem_cons.mpr ⟨lt_t3 11 rfl, List.forall_mem_cons.mpr ⟨lt_t3 12 rfl, List.forall_mem_cons.mpr ⟨lt_t3 13 rfl, List.forall_mem_cons.mpr ⟨lt_t3 14 rfl, List.forall_mem_cons.mpr ⟨lt_t3 15 rfl, List.forall_mem_cons.mpr ⟨lt_t3 16 rfl, List.forall_mem_cons.mpr ⟨lt_t3 17 rfl, List.forall_mem_cons.mpr ⟨lt_t3 18 rfl, List.forall_mem_cons.mpr ⟨lt_t3 19 rfl, List.forall_mem_cons.mpr ⟨lt_t5 23 rfl, List.forall_mem_cons.mpr ⟨lt_t5 49 rfl, fun _ h => absurd h List.not_mem_nil⟩⟩⟩⟩⟩⟩⟩⟩⟩⟩⟩⟩⟩⟩⟩⟩
theorem ft_ns : ∀ q ∈ nsL, Cond.methodLinkNest q.1 q.2.1 q.2.2.1 q.2.2.2 ∈ lw_tbl := by
  unfold nsL
  exact List.forall_mem_cons.mpr ⟨lt_t1 31 rfl, List.forall_mem_cons.mpr ⟨lt_t1 136 rfl, List.forall_mem_cons.mpr ⟨lt_t1 191 rfl, List.forall_mem_cons.mpr ⟨lt_t1 196 rfl, List.forall_mem_cons.mpr ⟨lt_t1 229 rfl, List.forall_mem_cons.mpr ⟨lt_t2 59 rfl, List.forall_mem_cons.mpr ⟨lt_t2 76 rfl, List.forall_mem_cons.mpr ⟨lt_t2 91 rfl, List.forall_mem_cons.mpr ⟨lt_t3 77 rfl, List.forall_mem_cons.mpr ⟨lt_t3 99 rfl, List.forall_mem_cons.mpr ⟨lt_t3 118 rfl, List.forall_mem_cons.mpr ⟨lt_t3 136 rfl, List.forall_mem_cons.mpr ⟨lt_t3 217 rfl, List.forall_mem_cons.mpr ⟨lt_t4 10 rfl, List.forall_mem_cons.mpr ⟨lt_t4 103 rfl, List.forall_mem_cons.mpr ⟨lt_t4 199 rfl, fun _ h => absurd h List.not_mem_nil⟩⟩⟩⟩⟩⟩⟩⟩⟩⟩⟩⟩⟩⟩⟩⟩
theorem ft_ns_on : ∀ q ∈ nsL, (Cond.methodLinkNest q.1 q.2.1 q.2.2.1 q.2.2.2).onTables = true := by decide +kernel
theorem ft_xo : ∀ w ∈ xoL, w ∈ lw_tbl := by
  unfold xoL
  exact List.forall_mem_cons.mpr ⟨lt_t4 228 rfl, List.forall_mem_cons.mpr ⟨lt_t4 230 rfl, List.forall_mem_cons.mpr ⟨lt_t4 232 rfl, List.forall_mem_cons.mpr ⟨lt_t4 226 rfl, fun _ h => absurd h List.not_mem_nil⟩⟩⟩⟩
def m0 (B : Nat) : Mm := (fun _ _ => 0, fun _ _ => 0, fun _ _ => none, fun _ => 99, fun _ => 0, B)
section START
variable {s : State} {a : Array Value}
theorem kn_cl (hts : ∀ w ∈ lw_tbl, w.before a s = true) : ∃ (dC : Nat → ClassId) (dI : Nat → Nat → Nat), ∀ (k : Nat) (q : vw_C), vwCl[k]? = some q → u_Kn s q.1 q.2.1 q.2.2 (dC k) (dI k) := by
  have hw : ∀ w ∈ Wd, w.before a s = true := fun w h => hts w (List.mem_filter.mp h).1
  obtain ⟨c0, j0, h0⟩ := u_known (C := RX0) (T := TX0) (N := 2) (n := 2) hw inw0 (hts _ (lt_t2 75 rfl))
  obtain ⟨c1, j1, h1⟩ := u_known (C := RX1) (T := TX1) (N := 3) (n := 3) hw inw1 (hts _ (lt_t2 58 rfl))
  obtain ⟨c2, j2, h2⟩ := u_known (C := RX2) (T := TX2) (N := 2) (n := 2) hw inw2 (hts _ (lt_t2 90 rfl))
  obtain ⟨c3, j3, h3⟩ := u_known (C := RX3) (T := TX3) (N := 9) (n := 9) hw inw3 (hts _ (lt_t1 190 rfl))
  obtain ⟨c4, j4, h4⟩ := u_known (C := RX4) (T := TX4) (N := 17) (n := 17) hw inw4 (hts _ (lt_t1 228 rfl))
  obtain ⟨c5, j5, h5⟩ := u_known (C := RX5) (T := TX5) (N := 10) (n := 10) hw inw5 (hts _ (lt_t1 135 rfl))
  obtain ⟨c6, j6, h6⟩ := u_known (C := RX6) (T := TX6) (N := 18) (n := 18) hw inw6 (hts _ (lt_t1 30 rfl))
  obtain ⟨c7, j7, h7⟩ := u_known (C := RX7) (T := TX7) (N := 12) (n := 12) hw inw7 (hts _ (lt_t1 22 rfl))
  obtain ⟨c8, j8, h8⟩ := u_known (C := RX8) (T := TX8) (N := 34) (n := 34) hw inw8 (hts _ (lt_t5 51 rfl))
  refine ⟨fun k => match k with | 0 => c0 | 1 => c1 | 2 => c2 | 3 => c3 | 4 => c4 | 5 => c5 | 6 => c6 | 7 => c7 | _ => c8, fun k => match k with | 0 => j0 | 1 => j1 | 2 => j2 | 3 => j3 | 4 => j4 | 5 => j5 | 6 => j6 | 7 => j7 | _ => j8, ?_⟩
  intro k q hq
  match k, hq with
  | 0, hq => cases hq; exact h0
  | 1, hq => cases hq; exact h1
  | 2, hq => cases hq; exact h2
  | 3, hq => cases hq; exact h3
  | 4, hq => cases hq; exact h4
  | 5, hq => cases hq; exact h5
  | 6, hq => cases hq; exact h6
  | 7, hq => cases hq; exact h7
  | 8, hq => cases hq; exact h8
  | k + 9, hq => simp [vwCl] at hq
theorem kn_ar {t : FieldType} (h : (Cond.arrayClass t).before a s = true) : ∃ c : ClassId, ArrOfT s c t ∧ s.vm.findClass ("[" ++ t.toString) = some c := by
  obtain ⟨c, k, comp, h1, h2, h3⟩ := Cond.arrayClass_spec (args := a) (first := s) (o := none) (s := s) (idx := []) h
  exact ⟨c, fun n z => ⟨fun k h => (by cases h), k, h2, comp, h3⟩, h1⟩
theorem kn_ao {C : String} (h : (Cond.arrayOver (.object C)).before a s = true) : ∃ c : ClassId, ArrOfT s c (.object C) ∧ va_RA s c (.object C) := by
  obtain ⟨comp, c, k, h1, h2, h3, h4, h5⟩ := Cond.arrayOver_spec (args := a) (first := s) (o := none) (s := s) (idx := []) h
  exact ⟨c, fun n z => ⟨fun k h => (by cases h), k, h3, comp, h4⟩, k, comp, h3, h4, h1, h5⟩
theorem kn_K (hts : ∀ w ∈ lw_tbl, w.before a s = true) : ∃ (D : va_G) (cA : Nat → ClassId), va_K D vwCl (tysA cA) s := by
  obtain ⟨dC, dI, hc⟩ := kn_cl hts
  obtain ⟨c9, a9, b9⟩ := kn_ar (hts _ (lt_t3 119 rfl))
  obtain ⟨c10, a10, b10⟩ := kn_ar (hts _ (lt_t1 133 rfl))
  obtain ⟨c11, a11, b11⟩ := kn_ar (hts _ (lt_t1 226 rfl))
  obtain ⟨c13, a13, b13⟩ := kn_ar (hts _ (lt_t7 103 rfl))
  obtain ⟨c12, a12, b12⟩ := kn_ao (C := "DrawnBonds$State") (hts _ (lt_t1 188 rfl))
  refine ⟨(dC, dI), fun k => match k with | 9 => c9 | 10 => c10 | 11 => c11 | 12 => c12 | _ => c13, hc, ?_⟩
  intro k q hq
  match k, hq with
  | 0, hq => cases hq; exact ⟨a9, b9⟩
  | 1, hq => cases hq; exact ⟨a10, b10⟩
  | 2, hq => cases hq; exact ⟨a11, b11⟩
  | 3, hq => cases hq; exact ⟨a12, b12⟩
  | 4, hq => cases hq; exact ⟨a13, b13⟩
  | k + 5, hq => simp [tysA] at hq
theorem kn_all (hts : ∀ w ∈ lw_tbl, w.before a s = true) (hfl : ∀ w ∈ fl1, w.before a s = true) : ∃ g : Gd, g.2.2.1 = s.heap.size ∧ KN g s ∧ XZ g s := by
  obtain ⟨D, cA, hK⟩ := kn_K hts
  have hA : ∀ q : Nat, q < s.heap.size → ¬ (fun q : Nat => s.heap.size ≤ q) q := fun q h => Nat.not_le.mpr h
  obtain ⟨adK, adV, hS, hR⟩ := vk_Sof (args := a) (s := s) (N := 16) (tm := tmS) (len := snL) (byt := sbL) (A := fun q : Nat => s.heap.size ≤ q) (by decide +kernel) (fun i hi => hfl _ (fs_ex i hi)) (fun i hi => hfl _ (fs_co i hi)) (fun i hi => hfl _ (fs_ar i hi)) (fun i hi => hfl _ (fs_le i hi)) (fun i hi j hj => hfl _ (fs_el i hi j hj)) (fun i j hi hj hn => (fs_ne i hi j hj hn).imp (hfl _) (hfl _)) hA
  refine ⟨(D, cA, s.heap.size, adK, adV), rfl, ⟨hK, ?_, hS, ?_, ?_, ?_, ?_, ?_⟩, ?_, ?_, ?_⟩
  · exact fun q hq => va_Zof (hts _ (ft_st q hq)) (hts _ (lt_t1 9 rfl)) (va_eqi (hfl _ (fs_st q hq))) hA
  · intro i q hi
    have hlt : i < 16 := (List.getElem?_eq_some_iff.mp hi).1
    refine vk_R.of (hts _ (ft_sr q (List.mem_of_getElem? hi))) ?_
    have hr := hR i hlt
    rw [show tmS i = .string q.1 q.2.1 from by unfold tmS; rw [hi]] at hr
    exact hr
  · exact va_Zof (hts _ (lt_t2 192 rfl)) (hts _ (lt_t1 12 rfl)) (va_eqi (hfl _ fs_cs)) hA
  · exact va_Zqof (hts _ (lt_t2 208 rfl)) (hts _ (lt_t1 14 rfl)) (hfl _ fs_fo) hA
  · exact fun q hq => va_Nw.of (ft_ns_on q hq) (hts _ (ft_ns q hq))
  · exact va_AO.of (hts _ (lt_t1 188 rfl))
  · exact vx_Zqof (hts _ (lt_t5 11 rfl)) (hts _ (lt_t1 17 rfl)) (hfl _ fs_us) hA
  · exact vx_Zqof (hts _ (lt_t5 13 rfl)) (hts _ (lt_t1 17 rfl)) (hfl _ fs_ss) hA
  · exact fun w hw => va_Nw.of (xo_tab w hw) (hts _ (ft_xo w hw))
end START
/-- the law's start, out of one theorem on numbers -/
def LawOk : Prop := ∀ (B L : Nat) (xs : Nat → Int32), L ≤ 3072 → ∃ M' : Mm, f_law xs L (m0 B) = some (1, M')
theorem start_of (hlaw : LawOk) {p : Program} {e : Env} {s : State} {m : MethodId} {below : List Frame} {meth : Method} {c : Code} (l : Launch) (hflags : l.flags = flags0) {b L : Nat} {xs : Nat → Int32} (hL : L ≤ 3072) (C0 : lw_At p s m meth c b L xs) : W p l e room_1 s m #[Value.ref b] below meth c s.heap [] 0 0 (lw_Z below #[Value.ref b] s) (entryFrame m ([Value.ref b] : List Value).toArray 7) := by
  obtain ⟨hx, hb, hr, hml, hown, hts, hX, hbl, hlocks, hgv⟩ := C0
  obtain ⟨g, hg, hKN, hXZ⟩ := kn_all hts (fun w hw => flat_of_before _ hgv w hw)
  have hst : l.stackTraces = false := by unfold Launch.stackTraces; rw [hflags]; decide +kernel
  obtain ⟨M', hf⟩ := hlaw s.heap.size L xs hL
  have hl := lv_entry ([.ref b]) (n := 7) (Nat.le_of_ble_eq_true rfl)
  rw [lg_entry_eq]
  have hgood : Good (g, p, l, e, room_1, s, m, #[Value.ref b], below, meth, c, 7, lw_Z below #[Value.ref b] s) RL code 7 room_1 ret := ⟨hx, hb, hml, hown, fun w hw => hts w (List.mem_filter.mp hw).1, hKN, hlocks, rfl, rfl, hr⟩
  have hGL : GoodL (g, p, l, e, room_1, s, m, #[Value.ref b], below, meth, c, 7, lw_Z below #[Value.ref b] s) b L xs := ⟨hg, hX, hbl, rfl, rfl, hXZ, hst, rfl, hr⟩
  have key := s_law (K := fun _ _ => True) hgood hGL (m0 s.heap.size) 1 M' hf trivial
  refine key s.heap [] _ ?_ (fun _ _ => rfl) (fun x hx => by cases hx) hl
  show Hd g.1 g.2.1 g.2.2.1 (m0 s.heap.size) s.heap
  rw [hg]
  refine ⟨rfl, Nat.le_refl _, fun a ha => ?_⟩
  exact absurd ha (by show ¬ (99 < 14); omega)
