def FU : Nat := 200000
theorem va_rf_cat (q : Option Nat) : (va_rf q).category = 1 := by cases q <;> rfl
abbrev cpOk (M : Mm) (src : Nat) (sp : Int32) (dst : Nat) (dp num : Int32) : Prop := gK M src = 10 ∧ gK M dst = 10 ∧ ¬ sp < 0 ∧ ¬ dp < 0 ∧ ¬ num < 0 ∧ sp.toNatClampNeg + num.toNatClampNeg ≤ gN M src ∧ dp.toNatClampNeg + num.toNatClampNeg ≤ gN M dst
section COPY
variable {z : Zt} {own : String} {cc : ByteArray} {nL : Nat} {rm : Room} {ret : Option FieldType} {pc : Nat} {lv : List (Nat × Value)} {st : List Value} {M : Mm} {k n : Nat} {α : Type} {r : Option (α × Mm)} {K : α → Mm → Prop}
theorem HH_cpy {g : Gd} {H H' : Heap} {a : Nat} {f : Nat → Int32} (hH : HH g M H) (hk : gK M a = 10) (e1 : H'[a]? = some (arrV (g.2.1 10) (gN M a) (fun j => .int (f j)))) (e2 : H'.size = H.size) (e3 : ∀ q, q ≠ a → H'[q]? = H[q]?) : HH g (sC M a f) H' := by
  refine HH_upd hH e2 e3 rfl (fun _ => rfl) (fun _ => rfl) (fun b hb => ?_) (fun _ _ => rfl) (fun _ _ => rfl) (fun _ => ?_)
  · funext i; simp [gI_sC, hb]
  · refine ⟨fun q hq => ?_, fun hq => ?_, fun hq => ?_, fun hq => ?_⟩
    · rw [gK_sC, hk] at hq
      have := vw_lt hq; omega
    · rw [gK_sC, hk, e1]
      simp [gI_sC, gN_sC]
    · rw [gK_sC, hk] at hq; omega
    · rw [gK_sC, hk] at hq; omega
theorem r_copy {i src dst : Nat} {sp dp num : Int32} (hz : Good z own cc nL rm ret) (d : decode cc pc = .ok (.invokestatic i, 3)) (hw : Cond.methodLink own i arraycopyName ∈ Wd) (hf : 1 ≤ rm.frames) (hlo : (st.map fun v => v.category).sum + (nativeFrameWords "java/lang/System" "arraycopy" 5 + 11) ≤ rm.locals) {dc : Decidable (cpOk M src sp dst dp num)}
    (h0 : Sim z (pc + 3) lv st (sC M dst (va_cpy (gI M src) (gI M dst) sp.toNatClampNeg dp.toNatClampNeg num.toNatClampNeg)) k n r K) : Sim z pc lv (.int num :: .int dp :: .ref dst :: .int sp :: .ref src :: st) M k n (ck (cpOk M src sp dst dp num) r) K := by
  obtain ⟨g, p, l, e, R, s, m, args, below, meth, c, nLq, Q⟩ := z
  intro v0 M0 hr hK H locs ls hH hB hL hl
  obtain ⟨⟨hk0, hk1, h1, h2, h3, h4, h5⟩, hr⟩ := ck_some hr
  obtain ⟨hx, hb, hml, hown, hts, hKN, hlk, hnl, hRm, hrt⟩ := hz
  subst hRm
  have hba := (HH_base hH (by rw [hk1]; omega)).1
  have nn : ∀ z : Int32, ¬ z < 0 → z.toInt = (z.toNatClampNeg : Int) := by
    intro z hz
    have hz0 : (0 : Int) ≤ z.toInt := by
      have := Int32.not_lt.mp hz
      simpa using Int32.le_iff_toInt_le.mp this
    show z.toInt = ((z.toInt.toNat : Nat) : Int)
    omega
  intro T hT X
  have hc0 : H[src]? = some (vp_cell (g.2.1 10) (gN M src, .inl (gI M src))) := at_int hH hk0 (by omega)
  have hc1 : H[dst]? = some (vp_cell (g.2.1 10) (gN M dst, .inl (gI M dst))) := at_int hH hk1 (by omega)
  obtain ⟨-, k0, hkk0, cm0, hkkk0⟩ := (hKN.1.2 1 (g.2.1 10, .int) rfl).1 (gN M src) (fun j => .int (gI M src j))
  obtain ⟨-, k1, hkk1, cm1, hkkk1⟩ := (hKN.1.2 1 (g.2.1 10, .int) rfl).1 (gN M dst) (fun j => .int (gI M dst j))
  obtain ⟨vm', X', step⟩ := X.arraycopy hx hown (hts _ hw) (hts _ wm_3_112) (hts _ wm_3_111) (hts _ wm_1_16) (src := src) (dst := dst) (cs := vp_cell (g.2.1 10) (gN M src, .inl (gI M src))) (cd := vp_cell (g.2.1 10) (gN M dst, .inl (gI M dst))) (srcPos := sp) (destPos := dp) (n := num) (by rw [hT]; exact hc0) (by rw [hT]; exact hc1)
    (fun _ h => by cases h) (fun _ h => by cases h) (fun h => by cases h) (fun h => by cases h) hkk0 hkk1 hkkk0 hkkk1 (by simp [refKind]) h1 h2 h3
    (by rw [nn sp h1, nn num h3]; show ¬ _ > ((arrV (g.2.1 10) (gN M src) (fun j => .int (gI M src j))).slots.size : Int); rw [arrV_size]; omega)
    (by rw [nn dp h2, nn num h3]; show ¬ _ > ((arrV (g.2.1 10) (gN M dst) (fun j => .int (gI M dst j))).slots.size : Int); rw [arrV_size]; omega)
    (fun vm₁ _ i hi => by
      have e : (vp_cell (g.2.1 10) (gN M src, .inl (gI M src))).slots.getD (sp.toNatClampNeg + i) .null = .int (gI M src (sp.toNatClampNeg + i)) := by
        show (arrV (g.2.1 10) (gN M src) (fun j => .int (gI M src j))).slots.getD _ _ = _
        rw [Array.getD_eq_getD_getElem?, arrV_read _ _ (by omega)]
        rfl
      refine ⟨?_, ?_⟩
      · rw [e]; rfl
      · rw [e]; exact trivial)
    (g := F0 m pc ls (.int num :: .int dp :: .ref dst :: .int sp :: .ref src :: st)) rfl (by rw [hml, ← hnl]; exact hl.1) (rest := st) rfl (by rw [hb]; exact d) hf (by show 2 * 0 + _ + _ ≤ _; omega)
  have e1 : copied (vp_cell (g.2.1 10) (gN M src, .inl (gI M src))) (vp_cell (g.2.1 10) (gN M dst, .inl (gI M dst))) sp dp num = vp_cell (g.2.1 10) (gN M dst, .inl (va_cpy (gI M src) (gI M dst) sp.toNatClampNeg dp.toNatClampNeg num.toNatClampNeg)) := va_copied (fun z => .int z) (g.2.1 10) (g.2.1 10) (gI M src) (gI M dst) h4
  rw [e1] at X' step
  have hlt : dst < H.size := (Array.getElem?_eq_some_iff.mp hc1).1
  have hheap : ((T.setVm vm').setCell dst (vp_cell (g.2.1 10) (gN M dst, .inl (va_cpy (gI M src) (gI M dst) sp.toNatClampNeg dp.toNatClampNeg num.toNatClampNeg)))).heap = H.setIfInBounds dst (vp_cell (g.2.1 10) (gN M dst, .inl (va_cpy (gI M src) (gI M dst) sp.toNatClampNeg dp.toNatClampNeg num.toNatClampNeg))) := by rw [← hT]; rfl
  have oq : ∀ q : Nat, q ≠ dst → (H.setIfInBounds dst (vp_cell (g.2.1 10) (gN M dst, .inl (va_cpy (gI M src) (gI M dst) sp.toNatClampNeg dp.toNatClampNeg num.toNatClampNeg))))[q]? = H[q]? := fun q hq => by simp [Array.getElem?_setIfInBounds, Ne.symm hq]
  obtain ⟨t, a1, b1⟩ := h0 v0 M0 hr hK _ _ ls (HH_cpy hH hk1 (show (H.setIfInBounds dst (vp_cell (g.2.1 10) (gN M dst, .inl (va_cpy (gI M src) (gI M dst) sp.toNatClampNeg dp.toNatClampNeg num.toNatClampNeg))))[dst]? = some _ by simp [Array.getElem?_setIfInBounds, hlt]; rfl) (by simp) oq) (fun q hq => by rw [oq q (by show ¬ q = dst; have hq' : q < g.2.2.1 := hq; omega)]; exact hB q hq) (fun x hx => by
      rcases List.mem_append.mp hx with h | h
      · exact hL x h
      · obtain ⟨w, -, hw⟩ := List.mem_map.mp h
        rw [← hw]
        exact hba) hl _ hheap X'
  exact ⟨t, step t a1, b1⟩
/-- a method of a String constant -/
theorem r_callVs {y : MethodName} {bytes : ByteArray} {maxL np i : Nat} {rt : Option FieldType} {rc : Room} {As : Gd → List Value} {stk : List Value} {j : Nat} {rb : Option (Int32 × Mm)} {f : Int32 → Mm → Option (α × Mm)} (hz : Good z own cc nL rm ret) (hC : ∀ x M', rb = some (x, M') → Ctr y bytes maxL rt rc (fun g => .ref (g.2.2.2.1 j) :: As g) M (zI x) M') (hy : CalOk y bytes maxL rt np) (d : decode cc pc = .ok (.invokevirtual i, 3))
    (hw1 : Cond.methodLink own i y ∈ Wd) (hw2 : Cond.instanceMethod y ∈ Wd) (hw3 : Cond.selects "java/lang/String" y y ∈ Wd) (hst : stk = (As z.1).reverse ++ .ref (zS z j) :: st) (hn : (As z.1).length = np) (hW : (st.map fun v => v.category).sum ≤ 8) (hR : rc.frames + 1 ≤ rm.frames ∧ 8 + (maxL + 11) + rc.locals ≤ rm.locals) (hc : k + rc.cells ≤ rm.cells ∧ n + rc.slots ≤ rm.slots)
    {dc : Decidable (j < 16)} (h0 : ∀ (x : Int32) M', Sim z (pc + 3) lv (.int x :: st) M' (k + rc.cells) (n + rc.slots) (f x M') K) : Sim z pc lv stk M k n (ck (j < 16) (bd rb f)) K := by
  refine r_ck (fun hk => ?_)
  refine r_call (vf := zI) hz hC (fun g p l e R s m args below meth c nLq Q x M' H locs ls ez hM hH hB hsz => ?_) h0
  subst ez
  obtain ⟨hx, hb, hml, hown, hts, hKN, hlk, hnl, hRm, hrt⟩ := hz
  subst hRm
  have hts' : ∀ w ∈ Wd, w.before args s = true := hts
  obtain ⟨cell, q1, q2, q3, q4⟩ := (hKN.2.2.1.1 j hk).1
  refine va_runV (C := "java/lang/String") (Ts := Wd) (As := As g) ⟨hx, hb, hml, hown, hts'⟩ hM ⟨callB_of np hts' (wd_sub hy.1) rfl rfl rfl (hts _ hy.2.1) (hts _ hw1) hy.2.2 hR, hts _ hw2, hts _ hw3⟩ ⟨po_blind, ⟨cell, by rw [hB _ (Nat.not_le.mp q4)]; exact q1, q2, q3⟩, pre_of hKN hH hB⟩ rfl hn hsz hst (lv_room hW) d hc
end COPY
