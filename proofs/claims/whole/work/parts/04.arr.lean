abbrev inb (x : Int32) (n : Nat) : Prop := ¬ (x < 0 ∨ n ≤ x.toNatClampNeg)
section ARR
variable {z : Zt} {own : String} {cc : ByteArray} {nL : Nat} {rm : Room} {ret : Option FieldType} {pc : Nat} {lv : List (Nat × Value)} {st : List Value} {M : Mm} {k n : Nat} {α : Type} {r : Option (α × Mm)} {K : α → Mm → Prop}
variable {a i : Nat} {x : Int32}
theorem in_lt {x : Int32} {N : Nat} (h : inb x N) : x.toNatClampNeg < N := Nat.not_le.mp fun q => h (Or.inr q)
theorem r_iald (hz : Good z own cc nL rm ret) (d : decode cc pc = .ok (.iaload, 1)) {dc : Decidable (gK M a = 10 ∧ inb x (gN M a))} (h0 : Sim z (pc + 1) lv (.int (gI M a x.toNatClampNeg) :: st) M k n r K) : Sim z pc lv (.int x :: .ref a :: st) M k n (ck (gK M a = 10 ∧ inb x (gN M a)) r) K := by
  obtain ⟨g, p, l, e, R, s, m, args, below, meth, c, nLq, Q⟩ := z
  intro v0 M0 hr hK H locs ls hH hB hL hl
  obtain ⟨⟨hk, hin⟩, hr⟩ := ck_some hr
  exact W.iald (v := .int (gI M a x.toNatClampNeg)) hz.1 hz.2.1 (at_int hH hk (by omega)) ((hz.2.2.2.2.2.1.1.2 1 (g.2.1 10, .int) rfl).1 _ _) (fun q => by cases q) (by rw [arrV_size]; exact hin) (by rw [arrV_read _ _ (in_lt hin)]) rfl rfl d (h0 v0 M0 hr hK H locs ls hH hB hL hl)
theorem r_bald (hz : Good z own cc nL rm ret) (d : decode cc pc = .ok (.baload, 1)) {dc : Decidable (gK M a = 9 ∧ inb x (gN M a))} (h0 : Sim z (pc + 1) lv (.int (gI M a x.toNatClampNeg) :: st) M k n r K) : Sim z pc lv (.int x :: .ref a :: st) M k n (ck (gK M a = 9 ∧ inb x (gN M a)) r) K := by
  obtain ⟨g, p, l, e, R, s, m, args, below, meth, c, nLq, Q⟩ := z
  intro v0 M0 hr hK H locs ls hH hB hL hl
  obtain ⟨⟨hk, hin⟩, hr⟩ := ck_some hr
  exact W.bald (v := .int (gI M a x.toNatClampNeg)) hz.1 hz.2.1 (at_int hH hk (by omega)) ((hz.2.2.2.2.2.1.1.2 0 (g.2.1 9, .byte) rfl).1 _ _) (fun q => by cases q) (by rw [arrV_size]; exact hin) (by rw [arrV_read _ _ (in_lt hin)]) rfl rfl d (h0 v0 M0 hr hK H locs ls hH hB hL hl)
theorem r_zald (hz : Good z own cc nL rm ret) (d : decode cc pc = .ok (.baload, 1)) {dc : Decidable (gK M a = 11 ∧ inb x (gN M a))} (h0 : Sim z (pc + 1) lv (.int (gI M a x.toNatClampNeg) :: st) M k n r K) : Sim z pc lv (.int x :: .ref a :: st) M k n (ck (gK M a = 11 ∧ inb x (gN M a)) r) K := by
  obtain ⟨g, p, l, e, R, s, m, args, below, meth, c, nLq, Q⟩ := z
  intro v0 M0 hr hK H locs ls hH hB hL hl
  obtain ⟨⟨hk, hin⟩, hr⟩ := ck_some hr
  exact W.zald (v := .int (gI M a x.toNatClampNeg)) hz.1 hz.2.1 (at_int hH hk (by omega)) ((hz.2.2.2.2.2.1.1.2 2 (g.2.1 11, .boolean) rfl).1 _ _) (fun q => by cases q) (by rw [arrV_size]; exact hin) (by rw [arrV_read _ _ (in_lt hin)]) rfl rfl d (h0 v0 M0 hr hK H locs ls hH hB hL hl)
theorem r_lald (hz : Good z own cc nL rm ret) (d : decode cc pc = .ok (.laload, 1)) {dc : Decidable (gK M a = 13 ∧ inb x (gN M a))} (h0 : Sim z (pc + 1) lv (.long (gL M a x.toNatClampNeg) :: st) M k n r K) : Sim z pc lv (.int x :: .ref a :: st) M k n (ck (gK M a = 13 ∧ inb x (gN M a)) r) K := by
  obtain ⟨g, p, l, e, R, s, m, args, below, meth, c, nLq, Q⟩ := z
  intro v0 M0 hr hK H locs ls hH hB hL hl
  obtain ⟨⟨hk, hin⟩, hr⟩ := ck_some hr
  exact W.lald (v := .long (gL M a x.toNatClampNeg)) hz.1 hz.2.1 (at_long hH hk) ((hz.2.2.2.2.2.1.1.2 4 (g.2.1 13, .long) rfl).1 _ _) (fun q => by cases q) (by rw [arrV_size]; exact hin) (by rw [arrV_read _ _ (in_lt hin)]) rfl rfl d (h0 v0 M0 hr hK H locs ls hH hB hL hl)
/-- an element of a row of references: nothing, or an object -/
theorem r_aald {f : Option Nat → Option (α × Mm)} (hz : Good z own cc nL rm ret) (d : decode cc pc = .ok (.aaload, 1)) {dc : Decidable (gK M a = 12 ∧ inb x (gN M a))} (h0 : ∀ q : Option Nat, Sim z (pc + 1) lv (va_rf q :: st) M k n (f q) K) : Sim z pc lv (.int x :: .ref a :: st) M k n (ck (gK M a = 12 ∧ inb x (gN M a)) (f (gR M a x.toNatClampNeg))) K := by
  obtain ⟨g, p, l, e, R, s, m, args, below, meth, c, nLq, Q⟩ := z
  intro v0 M0 hr hK H locs ls hH hB hL hl
  obtain ⟨⟨hk, hin⟩, hr⟩ := ck_some hr
  exact W.aald (v := va_rf (gR M a x.toNatClampNeg)) hz.1 hz.2.1 (at_ref hH hk) ((hz.2.2.2.2.2.1.1.2 3 (g.2.1 12, .object "DrawnBonds$State") rfl).1 _ _) rfl (fun q => by cases q) (by rw [arrV_size]; exact hin) (by rw [arrV_read _ _ (in_lt hin)]) rfl rfl d (h0 _ v0 M0 hr hK H locs ls hH hB hL hl)
theorem r_alen (hz : Good z own cc nL rm ret) (d : decode cc pc = .ok (.arraylength, 1)) {dc : Decidable (gK M a = 10)} (h0 : Sim z (pc + 1) lv (.int (Int32.ofNat (gN M a)) :: st) M k n r K) : Sim z pc lv (.ref a :: st) M k n (ck (gK M a = 10) r) K := by
  obtain ⟨g, p, l, e, R, s, m, args, below, meth, c, nLq, Q⟩ := z
  intro v0 M0 hr hK H locs ls hH hB hL hl
  obtain ⟨hk, hr⟩ := ck_some hr
  exact W.alen (n := Int32.ofNat (gN M a)) hz.1 hz.2.1 (at_int hH hk (by omega)) ((hz.2.2.2.2.2.1.1.2 1 (g.2.1 10, .int) rfl).1 _ _) (by rw [arrV_size]) rfl rfl d (h0 v0 M0 hr hK H locs ls hH hB hL hl)
/-- the memory behind a write of a row of numbers -/
theorem HH_row {g : Gd} {H H' : Heap} {kd j : Nat} {v : Int32} (hH : HH g M H) (hk : gK M a = kd) (h3 : kd = 9 ∨ kd = 10 ∨ kd = 11) (e1 : H'[a]? = some ((arrV (g.2.1 kd) (gN M a) (fun j => .int (gI M a j))).setSlot j (.int v))) (e2 : H'.size = H.size) (e3 : ∀ q, q ≠ a → H'[q]? = H[q]?) : HH g (sI M a j v) H' := by
  refine HH_upd hH e2 e3 rfl (fun _ => rfl) (fun _ => rfl) (fun b hb => ?_) (fun _ _ => rfl) (fun _ _ => rfl) (fun _ => ?_)
  · funext i; simp [gI_sI, hb]
  · refine ⟨fun q hq => ?_, fun hq => ?_, fun hq => ?_, fun hq => ?_⟩
    · rw [gK_sI, hk] at hq
      have := vw_lt hq; omega
    · rw [gK_sI, hk, e1, arrV_store]
      congr 2
      funext q
      by_cases hqj : q = j
      · subst hqj; simp [updV, gI_sI]
      · simp [updV, gI_sI, hqj]
    · rw [gK_sI, hk] at hq; omega
    · rw [gK_sI, hk] at hq; omega
theorem r_iast {v : Int32} (hz : Good z own cc nL rm ret) (d : decode cc pc = .ok (.iastore, 1)) {dc : Decidable (gK M a = 10 ∧ inb x (gN M a))} (h0 : Sim z (pc + 1) lv st (sI M a x.toNatClampNeg v) k n r K) : Sim z pc lv (.int v :: .int x :: .ref a :: st) M k n (ck (gK M a = 10 ∧ inb x (gN M a)) r) K := by
  obtain ⟨g, p, l, e, R, s, m, args, below, meth, c, nLq, Q⟩ := z
  intro v0 M0 hr hK H locs ls hH hB hL hl
  obtain ⟨⟨hk, hin⟩, hr⟩ := ck_some hr
  have hba := (HH_base hH (by rw [hk]; omega)).1
  refine W.iast hz.1 hz.2.1 (at_int hH hk (by omega)) ((hz.2.2.2.2.2.1.1.2 1 (g.2.1 10, .int) rfl).1 _ _) (fun q => by cases q) (by rw [arrV_size]; exact hin) rfl rfl d (fun H' e1 e2 e3 => ?_)
  exact h0 v0 M0 hr hK H' _ ls (HH_row hH hk (by omega) e1 e2 e3) (fun q hq => by rw [e3 q (by show ¬ q = a; have hq' : q < g.2.2.1 := hq; omega)]; exact hB q hq) (loc_add hL hba) hl
theorem r_bast {v : Int32} (hz : Good z own cc nL rm ret) (d : decode cc pc = .ok (.bastore, 1)) {dc : Decidable (gK M a = 9 ∧ inb x (gN M a))} (h0 : Sim z (pc + 1) lv st (sI M a x.toNatClampNeg (vp_nar .byte v)) k n r K) : Sim z pc lv (.int v :: .int x :: .ref a :: st) M k n (ck (gK M a = 9 ∧ inb x (gN M a)) r) K := by
  obtain ⟨g, p, l, e, R, s, m, args, below, meth, c, nLq, Q⟩ := z
  intro v0 M0 hr hK H locs ls hH hB hL hl
  obtain ⟨⟨hk, hin⟩, hr⟩ := ck_some hr
  have hba := (HH_base hH (by rw [hk]; omega)).1
  refine W.bast hz.1 hz.2.1 (at_int hH hk (by omega)) ((hz.2.2.2.2.2.1.1.2 0 (g.2.1 9, .byte) rfl).1 _ _) (fun q => by cases q) (by rw [arrV_size]; exact hin) rfl rfl d (fun H' e1 e2 e3 => ?_)
  exact h0 v0 M0 hr hK H' _ ls (HH_row hH hk (by omega) e1 e2 e3) (fun q hq => by rw [e3 q (by show ¬ q = a; have hq' : q < g.2.2.1 := hq; omega)]; exact hB q hq) (loc_add hL hba) hl
theorem r_zast {v : Int32} (hz : Good z own cc nL rm ret) (d : decode cc pc = .ok (.bastore, 1)) {dc : Decidable (gK M a = 11 ∧ inb x (gN M a))} (h0 : Sim z (pc + 1) lv st (sI M a x.toNatClampNeg (vp_nar .boolean v)) k n r K) : Sim z pc lv (.int v :: .int x :: .ref a :: st) M k n (ck (gK M a = 11 ∧ inb x (gN M a)) r) K := by
  obtain ⟨g, p, l, e, R, s, m, args, below, meth, c, nLq, Q⟩ := z
  intro v0 M0 hr hK H locs ls hH hB hL hl
  obtain ⟨⟨hk, hin⟩, hr⟩ := ck_some hr
  have hba := (HH_base hH (by rw [hk]; omega)).1
  refine W.zast hz.1 hz.2.1 (at_int hH hk (by omega)) ((hz.2.2.2.2.2.1.1.2 2 (g.2.1 11, .boolean) rfl).1 _ _) (fun q => by cases q) (by rw [arrV_size]; exact hin) rfl rfl d (fun H' e1 e2 e3 => ?_)
  exact h0 v0 M0 hr hK H' _ ls (HH_row hH hk (by omega) e1 e2 e3) (fun q hq => by rw [e3 q (by show ¬ q = a; have hq' : q < g.2.2.1 := hq; omega)]; exact hB q hq) (loc_add hL hba) hl
theorem r_last {v : Int64} (hz : Good z own cc nL rm ret) (d : decode cc pc = .ok (.lastore, 1)) {dc : Decidable (gK M a = 13 ∧ inb x (gN M a))} (h0 : Sim z (pc + 1) lv st (sL M a x.toNatClampNeg v) k n r K) : Sim z pc lv (.long v :: .int x :: .ref a :: st) M k n (ck (gK M a = 13 ∧ inb x (gN M a)) r) K := by
  obtain ⟨g, p, l, e, R, s, m, args, below, meth, c, nLq, Q⟩ := z
  intro v0 M0 hr hK H locs ls hH hB hL hl
  obtain ⟨⟨hk, hin⟩, hr⟩ := ck_some hr
  have hba := (HH_base hH (by rw [hk]; omega)).1
  refine W.last hz.1 hz.2.1 (at_long hH hk) ((hz.2.2.2.2.2.1.1.2 4 (g.2.1 13, .long) rfl).1 _ _) (fun q => by cases q) (by rw [arrV_size]; exact hin) rfl rfl d (fun H' e1 e2 e3 => ?_)
  refine h0 v0 M0 hr hK H' _ ls (HH_upd hH e2 e3 rfl (fun _ => rfl) (fun _ => rfl) (fun _ _ => rfl) (fun b hb => ?_) (fun _ _ => rfl) (fun _ => ?_)) (fun q hq => by rw [e3 q (by show ¬ q = a; have hq' : q < g.2.2.1 := hq; omega)]; exact hB q hq) (loc_add hL hba) hl
  · funext i; simp [gL_sL, hb]
  · refine ⟨fun q hq => ?_, fun hq => ?_, fun hq => ?_, fun hq => ?_⟩
    · rw [gK_sL, hk] at hq
      have := vw_lt hq; omega
    · rw [gK_sL, hk] at hq; omega
    · rw [gK_sL, hk] at hq; omega
    · rw [e1, arrV_store]
      congr 2
      funext q
      by_cases hqj : q = x.toNatClampNeg
      · subst hqj; simp [updV, gL_sL]
      · simp [updV, gL_sL, hqj]
theorem r_aast {v : Nat} (hz : Good z own cc nL rm ret) (d : decode cc pc = .ok (.aastore, 1)) {dc : Decidable (gK M a = 12 ∧ inb x (gN M a) ∧ gK M v = 5)} (h0 : Sim z (pc + 1) lv st (sR M a x.toNatClampNeg (some v)) k n r K) : Sim z pc lv (.ref v :: .int x :: .ref a :: st) M k n (ck (gK M a = 12 ∧ inb x (gN M a) ∧ gK M v = 5) r) K := by
  obtain ⟨g, p, l, e, R, s, m, args, below, meth, c, nLq, Q⟩ := z
  intro v0 M0 hr hK H locs ls hH hB hL hl
  obtain ⟨⟨hk, hin, hv⟩, hr⟩ := ck_some hr
  have hba := (HH_base hH (by rw [hk]; omega)).1
  have hKN := hz.2.2.2.2.2.1
  obtain ⟨cellV, g1, g2, g3, -⟩ := at_obj (q := (RX5, TX5, 10)) hH hv rfl
  have hcls := (hKN.1.1 5 (RX5, TX5, 10) rfl).2
  obtain ⟨kA, comp, k1, k2, k3, -⟩ := (hKN.1.2 3 (g.2.1 12, .object "DrawnBonds$State") rfl).2
  have hcomp : comp = g.1.1 5 := Option.some.inj (k3.symm.trans hcls.1)
  subst hcomp
  obtain ⟨kC, hkC, -⟩ := hcls.2
  have h0' : ¬ x < 0 := fun q => hin (Or.inl q)
  refine W.aast hz.1 hz.2.1 (at_ref hH hk) (fun q h => by cases h) (fun h => by cases h) k1 k2 rfl hkC ⟨h0', by rw [arrV_size]; exact in_lt hin⟩ g1 (fun q h => by rw [g3] at h; cases h) (by rw [g2]; exact hkC) (by rw [g2]; exact va_assign hcls) rfl rfl d (fun H' e1 e2 e3 => ?_)
  refine h0 v0 M0 hr hK H' _ ls (HH_upd hH e2 e3 rfl (fun _ => rfl) (fun _ => rfl) (fun _ _ => rfl) (fun _ _ => rfl) (fun b hb => ?_) (fun _ => ?_)) (fun q hq => by rw [e3 q (by show ¬ q = a; have hq' : q < g.2.2.1 := hq; omega)]; exact hB q hq) (loc_add hL hba) hl
  · funext i; simp [gR_sR, hb]
  · refine ⟨fun q hq => ?_, fun hq => ?_, fun hq => ?_, fun hq => ?_⟩
    · rw [gK_sR, hk] at hq
      have := vw_lt hq; omega
    · rw [gK_sR, hk] at hq; omega
    · rw [e1, arrV_store]
      congr 2
      funext q
      by_cases hqj : q = x.toNatClampNeg
      · subst hqj; simp [updV, gR_sR, va_rf]
      · simp [updV, gR_sR, hqj]
    · rw [gK_sR, hk] at hq; omega
/-- a new cell stands at the end of the memory -/
theorem HH_new {g : Gd} {H H' : Heap} {kd len : Nat} (hH : HH g M H) (hsz : H'.size = H.size + 1) (ho : ∀ q, q < H.size → H'[q]? = H[q]?) (hA : At1 g.1 g.2.1 (sN M kd len) (gT M) H') : HH g (sN M kd len) H' := by
  have hT : H.size = gT M := hH.1
  refine ⟨by rw [hsz, hT]; rfl, by rw [gT_sN]; exact Nat.le_succ_of_le hH.2.1, fun b hb => ?_⟩
  by_cases hbt : b = gT M
  · subst hbt
    exact ⟨hH.2.1, by rw [gT_sN]; omega, hA⟩
  · rw [gK_sN, if_neg hbt] at hb
    obtain ⟨h1, h2, h3⟩ := hH.2.2 b hb
    refine ⟨h1, by rw [gT_sN]; omega, ?_⟩
    have e := ho b (by rw [hT]; exact h2)
    have eK : gK (sN M kd len) b = gK M b := by rw [gK_sN, if_neg hbt]
    have eN : gN (sN M kd len) b = gN M b := by rw [gN_sN, if_neg hbt]
    have eI : gI (sN M kd len) b = gI M b := by funext i; rw [gI_sN, if_neg hbt]
    have eL : gL (sN M kd len) b = gL M b := by funext i; rw [gL_sN, if_neg hbt]
    have eR : gR (sN M kd len) b = gR M b := by funext i; rw [gR_sN, if_neg hbt]
    obtain ⟨k1, k2, k3, k4⟩ := h3
    refine ⟨fun q hq => ?_, fun hq => ?_, fun hq => ?_, fun hq => ?_⟩
    · rw [eK] at hq ⊢
      exact ((k1 q hq).kept e).to (fun j _ => by simp [fV, eI, eL, eR])
    · rw [eK] at hq ⊢
      rw [e, eN, eI]; exact k2 hq
    · rw [eK] at hq
      rw [e, eN, eR]; exact k3 hq
    · rw [eK] at hq
      rw [e, eN, eL]; exact k4 hq
theorem r_new {ci N : Nat} {C : String} {T : u_T} {ty : Nat → FieldType} (hc : ClOk ci C T N ty) (hz : Good z own cc nL rm ret) (d : decode cc pc = .ok (.new i, 3)) (hw1 : Cond.classLink own i C ∈ Wd) (hw2 : Cond.instantiable C N ∈ Wd) (hw3 : Cond.initialized C ∈ Wd) (hcell : k + 1 ≤ rm.cells) (hslot : n + N ≤ rm.slots)
    (h0 : Sim z (pc + 3) lv (.ref (gT M) :: st) (sN M ci N) (k + 1) (n + N) r K) : Sim z pc lv st M k n r K := by
  obtain ⟨g, p, l, e, R, s, m, args, below, meth, c, nLq, Q⟩ := z
  intro v0 M0 hr hK H locs ls hH hB hL hl
  obtain ⟨hx, hb, hml, hown, hts, hKN, hlk, -, hRm, -⟩ := hz
  subst hRm
  obtain ⟨hc1, hc2, hc3, hc4, hc5⟩ := hc
  have hKn := hKN.1.1 ci _ hc1
  have hT : H.size = gT M := hH.1
  have hcl := vw_lt hc1
  refine W.newcK hx hb hown (hts _ hw1) (hts _ hw2) (hts _ hw3) rfl d hcell hslot hKn.2.1 hT (fun H1 kC hkC e1 z1 o1 => ?_)
  refine h0 v0 M0 hr hK H1 locs ls (HH_new hH (by rw [z1, hT]) (fun q hq => o1 q (by rw [← hT]; exact hq)) ?_) (fun q hq => by rw [o1 q (Nat.lt_of_lt_of_le hq hH.2.1)]; exact hB q hq) hL hl
  have eK : gK (sN M ci N) (gT M) = ci := by rw [gK_sN, if_pos rfl]
  refine ⟨fun q hq => ?_, fun hq => ?_, fun hq => ?_, fun hq => ?_⟩
  · rw [eK] at hq ⊢
    cases hc1.symm.trans hq
    refine (u_born ty hts hc2 hKn hkC e1 hc3).to (fun j hj => ?_)
    rw [hc5 j hj]
    simp [fV, gI_sN, gL_sN, gR_sN, va_rf]
  · rw [eK] at hq; omega
  · rw [eK] at hq; omega
  · rw [eK] at hq; omega
theorem r_newI {len : Nat} {v : Int32} (hz : Good z own cc nL rm ret) (d : decode cc pc = .ok (.newarray .int, 2)) (hw : Cond.arrayClass .int ∈ Wd) (hv : v.toNatClampNeg = len) (hv0 : ¬ v < 0) (hlen : len * 4 ≤ 536870912) (hcell : k + 1 ≤ rm.cells) (hslot : n + len ≤ rm.slots)
    (h0 : Sim z (pc + 2) lv (.ref (gT M) :: st) (sN M 10 len) (k + 1) (n + len) r K) : Sim z pc lv (.int v :: st) M k n r K := by
  obtain ⟨g, p, l, e, R, s, m, args, below, meth, c, nLq, Q⟩ := z
  intro v0 M0 hr hK H locs ls hH hB hL hl
  obtain ⟨hx, hb, hml, hown, hts, hKN, hlk, -, hRm, -⟩ := hz
  subst hRm
  have hT : H.size = gT M := hH.1
  refine va_newaK (atype := .int) hx hb (hts _ hw) rfl d rfl hv0 hv hlen hcell hslot hT (fun H1 cA e1 z1 o1 har hfc => ?_)
  have hcA : cA = g.2.1 10 := Option.some.inj (hfc.symm.trans (hKN.1.2 1 (g.2.1 10, .int) rfl).2)
  subst hcA
  refine h0 v0 M0 hr hK H1 locs ls (HH_new hH (by rw [z1, hT]) (fun q hq => o1 q (by rw [← hT]; exact hq)) ?_) (fun q hq => by rw [o1 q (Nat.lt_of_lt_of_le hq hH.2.1)]; exact hB q hq) hL hl
  have eK : gK (sN M 10 len) (gT M) = 10 := by rw [gK_sN, if_pos rfl]
  refine ⟨fun q hq => ?_, fun hq => ?_, fun hq => ?_, fun hq => ?_⟩
  · rw [eK] at hq; have := vw_lt hq; omega
  · rw [eK, e1]; simp [gN_sN, gI_sN]; rfl
  · rw [eK] at hq; omega
  · rw [eK] at hq; omega
theorem r_newZ {len : Nat} {v : Int32} (hz : Good z own cc nL rm ret) (d : decode cc pc = .ok (.newarray .boolean, 2)) (hw : Cond.arrayClass .boolean ∈ Wd) (hv : v.toNatClampNeg = len) (hv0 : ¬ v < 0) (hlen : len * 1 ≤ 536870912) (hcell : k + 1 ≤ rm.cells) (hslot : n + len ≤ rm.slots)
    (h0 : Sim z (pc + 2) lv (.ref (gT M) :: st) (sN M 11 len) (k + 1) (n + len) r K) : Sim z pc lv (.int v :: st) M k n r K := by
  obtain ⟨g, p, l, e, R, s, m, args, below, meth, c, nLq, Q⟩ := z
  intro v0 M0 hr hK H locs ls hH hB hL hl
  obtain ⟨hx, hb, hml, hown, hts, hKN, hlk, -, hRm, -⟩ := hz
  subst hRm
  have hT : H.size = gT M := hH.1
  refine va_newaK (atype := .boolean) hx hb (hts _ hw) rfl d rfl hv0 hv hlen hcell hslot hT (fun H1 cA e1 z1 o1 har hfc => ?_)
  have hcA : cA = g.2.1 11 := Option.some.inj (hfc.symm.trans (hKN.1.2 2 (g.2.1 11, .boolean) rfl).2)
  subst hcA
  refine h0 v0 M0 hr hK H1 locs ls (HH_new hH (by rw [z1, hT]) (fun q hq => o1 q (by rw [← hT]; exact hq)) ?_) (fun q hq => by rw [o1 q (Nat.lt_of_lt_of_le hq hH.2.1)]; exact hB q hq) hL hl
  have eK : gK (sN M 11 len) (gT M) = 11 := by rw [gK_sN, if_pos rfl]
  refine ⟨fun q hq => ?_, fun hq => ?_, fun hq => ?_, fun hq => ?_⟩
  · rw [eK] at hq; have := vw_lt hq; omega
  · rw [eK, e1]; simp [gN_sN, gI_sN]; rfl
  · rw [eK] at hq; omega
  · rw [eK] at hq; omega
theorem r_newB {len : Nat} {v : Int32} (hz : Good z own cc nL rm ret) (d : decode cc pc = .ok (.newarray .byte, 2)) (hw : Cond.arrayClass .byte ∈ Wd) (hv : v.toNatClampNeg = len) (hv0 : ¬ v < 0) (hlen : len * 1 ≤ 536870912) (hcell : k + 1 ≤ rm.cells) (hslot : n + len ≤ rm.slots)
    (h0 : Sim z (pc + 2) lv (.ref (gT M) :: st) (sN M 9 len) (k + 1) (n + len) r K) : Sim z pc lv (.int v :: st) M k n r K := by
  obtain ⟨g, p, l, e, R, s, m, args, below, meth, c, nLq, Q⟩ := z
  intro v0 M0 hr hK H locs ls hH hB hL hl
  obtain ⟨hx, hb, hml, hown, hts, hKN, hlk, -, hRm, -⟩ := hz
  subst hRm
  have hT : H.size = gT M := hH.1
  refine va_newaK (atype := .byte) hx hb (hts _ hw) rfl d rfl hv0 hv hlen hcell hslot hT (fun H1 cA e1 z1 o1 har hfc => ?_)
  have hcA : cA = g.2.1 9 := Option.some.inj (hfc.symm.trans (hKN.1.2 0 (g.2.1 9, .byte) rfl).2)
  subst hcA
  refine h0 v0 M0 hr hK H1 locs ls (HH_new hH (by rw [z1, hT]) (fun q hq => o1 q (by rw [← hT]; exact hq)) ?_) (fun q hq => by rw [o1 q (Nat.lt_of_lt_of_le hq hH.2.1)]; exact hB q hq) hL hl
  have eK : gK (sN M 9 len) (gT M) = 9 := by rw [gK_sN, if_pos rfl]
  refine ⟨fun q hq => ?_, fun hq => ?_, fun hq => ?_, fun hq => ?_⟩
  · rw [eK] at hq; have := vw_lt hq; omega
  · rw [eK, e1]; simp [gN_sN, gI_sN]; rfl
  · rw [eK] at hq; omega
  · rw [eK] at hq; omega
theorem r_newJ {len : Nat} {v : Int32} (hz : Good z own cc nL rm ret) (d : decode cc pc = .ok (.newarray .long, 2)) (hw : Cond.arrayClass .long ∈ Wd) (hv : v.toNatClampNeg = len) (hv0 : ¬ v < 0) (hlen : len * 8 ≤ 536870912) (hcell : k + 1 ≤ rm.cells) (hslot : n + len ≤ rm.slots)
    (h0 : Sim z (pc + 2) lv (.ref (gT M) :: st) (sN M 13 len) (k + 1) (n + len) r K) : Sim z pc lv (.int v :: st) M k n r K := by
  obtain ⟨g, p, l, e, R, s, m, args, below, meth, c, nLq, Q⟩ := z
  intro v0 M0 hr hK H locs ls hH hB hL hl
  obtain ⟨hx, hb, hml, hown, hts, hKN, hlk, -, hRm, -⟩ := hz
  subst hRm
  have hT : H.size = gT M := hH.1
  refine va_newaK (atype := .long) hx hb (hts _ hw) rfl d rfl hv0 hv hlen hcell hslot hT (fun H1 cA e1 z1 o1 har hfc => ?_)
  have hcA : cA = g.2.1 13 := Option.some.inj (hfc.symm.trans (hKN.1.2 4 (g.2.1 13, .long) rfl).2)
  subst hcA
  refine h0 v0 M0 hr hK H1 locs ls (HH_new hH (by rw [z1, hT]) (fun q hq => o1 q (by rw [← hT]; exact hq)) ?_) (fun q hq => by rw [o1 q (Nat.lt_of_lt_of_le hq hH.2.1)]; exact hB q hq) hL hl
  have eK : gK (sN M 13 len) (gT M) = 13 := by rw [gK_sN, if_pos rfl]
  refine ⟨fun q hq => ?_, fun hq => ?_, fun hq => ?_, fun hq => ?_⟩
  · rw [eK] at hq; have := vw_lt hq; omega
  · rw [eK] at hq; omega
  · rw [eK] at hq; omega
  · rw [e1]; simp [gN_sN, gL_sN]; rfl
theorem r_newS {len : Nat} {v : Int32} (hz : Good z own cc nL rm ret) (d : decode cc pc = .ok (.anewarray i, 3)) (hw : Cond.classLink own i "DrawnBonds$State" ∈ Wd) (hv : v.toNatClampNeg = len) (hv0 : ¬ v < 0) (hlen : len * 4 ≤ 536870912) (hcell : k + 1 ≤ rm.cells) (hslot : n + len ≤ rm.slots)
    (h0 : Sim z (pc + 3) lv (.ref (gT M) :: st) (sN M 12 len) (k + 1) (n + len) r K) : Sim z pc lv (.int v :: st) M k n r K := by
  obtain ⟨g, p, l, e, R, s, m, args, below, meth, c, nLq, Q⟩ := z
  intro v0 M0 hr hK H locs ls hH hB hL hl
  obtain ⟨hx, hb, hml, hown, hts, hKN, hlk, -, hRm, -⟩ := hz
  subst hRm
  subst hv
  have hT : H.size = gT M := hH.1
  refine W.anew hx hb hown (hts _ hw) (va_AO.use hKN.2.2.2.2.2.2.2) rfl d rfl hv0 hlen hcell hslot (fun cA kA comp f1 f2 f3 f4 => ?_)
  generalize hH1 : H.push ({ cls := cA, slots := Array.replicate v.toNatClampNeg .null, vm := .none } : Cell) = H1
  have z1 : H1.size = H.size + 1 := by rw [← hH1, Array.size_push]
  have e1 : H1[H.size]? = some (arrV cA v.toNatClampNeg (fun _ => .null)) := by rw [← hH1, Array.getElem?_push_size, ← arrV_new]
  have o1 : ∀ q : Nat, q < H.size → H1[q]? = H[q]? := fun q hq => by rw [← hH1, Array.getElem?_push, if_neg (Nat.ne_of_lt hq)]
  obtain ⟨kB, compB, g1, g2, g3, g4⟩ := (hKN.1.2 3 (g.2.1 12, .object "DrawnBonds$State") rfl).2
  have hcA : cA = g.2.1 12 := Option.some.inj (f1.symm.trans g4)
  subst hcA
  rw [hT] at e1
  have key := h0 v0 M0 hr hK H1 locs ls (HH_new hH z1 o1 ?_) (fun q hq => by rw [o1 q (by rw [hT]; exact Nat.lt_of_lt_of_le hq hH.2.1)]; exact hB q hq) hL hl
  · rw [← hT] at key; exact key
  have eK : gK (sN M 12 v.toNatClampNeg) (gT M) = 12 := by rw [gK_sN, if_pos rfl]
  refine ⟨fun q hq => ?_, fun hq => ?_, fun hq => ?_, fun hq => ?_⟩
  · rw [eK] at hq; have := vw_lt hq; omega
  · rw [eK] at hq; omega
  · rw [e1]; simp [gN_sN, gR_sN, va_rf]
  · rw [eK] at hq; omega
end ARR
