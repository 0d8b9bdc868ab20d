/-! memory: what is read behind a write -/
theorem gI_sI (M : Mm) (a j : Nat) (v : Int32) (b i : Nat) : gI (sI M a j v) b i = if b = a ∧ i = j then v else gI M b i := rfl
theorem gL_sI (M : Mm) (a j : Nat) (v : Int32) : gL (sI M a j v) = gL M := rfl
theorem gR_sI (M : Mm) (a j : Nat) (v : Int32) : gR (sI M a j v) = gR M := rfl
theorem gK_sI (M : Mm) (a j : Nat) (v : Int32) : gK (sI M a j v) = gK M := rfl
theorem gN_sI (M : Mm) (a j : Nat) (v : Int32) : gN (sI M a j v) = gN M := rfl
theorem gT_sI (M : Mm) (a j : Nat) (v : Int32) : gT (sI M a j v) = gT M := rfl
theorem gI_sL (M : Mm) (a j : Nat) (v : Int64) : gI (sL M a j v) = gI M := rfl
theorem gL_sL (M : Mm) (a j : Nat) (v : Int64) (b i : Nat) : gL (sL M a j v) b i = if b = a ∧ i = j then v else gL M b i := rfl
theorem gR_sL (M : Mm) (a j : Nat) (v : Int64) : gR (sL M a j v) = gR M := rfl
theorem gK_sL (M : Mm) (a j : Nat) (v : Int64) : gK (sL M a j v) = gK M := rfl
theorem gN_sL (M : Mm) (a j : Nat) (v : Int64) : gN (sL M a j v) = gN M := rfl
theorem gT_sL (M : Mm) (a j : Nat) (v : Int64) : gT (sL M a j v) = gT M := rfl
theorem gI_sR (M : Mm) (a j : Nat) (v : Option Nat) : gI (sR M a j v) = gI M := rfl
theorem gL_sR (M : Mm) (a j : Nat) (v : Option Nat) : gL (sR M a j v) = gL M := rfl
theorem gR_sR (M : Mm) (a j : Nat) (v : Option Nat) (b i : Nat) : gR (sR M a j v) b i = if b = a ∧ i = j then v else gR M b i := rfl
theorem gK_sR (M : Mm) (a j : Nat) (v : Option Nat) : gK (sR M a j v) = gK M := rfl
theorem gN_sR (M : Mm) (a j : Nat) (v : Option Nat) : gN (sR M a j v) = gN M := rfl
theorem gT_sR (M : Mm) (a j : Nat) (v : Option Nat) : gT (sR M a j v) = gT M := rfl
theorem gI_sC (M : Mm) (a : Nat) (f : Nat → Int32) (b i : Nat) : gI (sC M a f) b i = if b = a then f i else gI M b i := rfl
theorem gL_sC (M : Mm) (a : Nat) (f : Nat → Int32) : gL (sC M a f) = gL M := rfl
theorem gR_sC (M : Mm) (a : Nat) (f : Nat → Int32) : gR (sC M a f) = gR M := rfl
theorem gK_sC (M : Mm) (a : Nat) (f : Nat → Int32) : gK (sC M a f) = gK M := rfl
theorem gN_sC (M : Mm) (a : Nat) (f : Nat → Int32) : gN (sC M a f) = gN M := rfl
theorem gT_sC (M : Mm) (a : Nat) (f : Nat → Int32) : gT (sC M a f) = gT M := rfl
theorem gI_sN (M : Mm) (kd len b i : Nat) : gI (sN M kd len) b i = if b = gT M then 0 else gI M b i := rfl
theorem gL_sN (M : Mm) (kd len b i : Nat) : gL (sN M kd len) b i = if b = gT M then 0 else gL M b i := rfl
theorem gR_sN (M : Mm) (kd len b i : Nat) : gR (sN M kd len) b i = if b = gT M then none else gR M b i := rfl
theorem gK_sN (M : Mm) (kd len b : Nat) : gK (sN M kd len) b = if b = gT M then kd else gK M b := rfl
theorem gN_sN (M : Mm) (kd len b : Nat) : gN (sN M kd len) b = if b = gT M then len else gN M b := rfl
theorem gT_sN (M : Mm) (kd len : Nat) : gT (sN M kd len) = gT M + 1 := rfl
theorem vw_lt {ci : Nat} {q : vw_C} (h : vwCl[ci]? = some q) : ci < 9 := (List.getElem?_eq_some_iff.mp h).1
theorem at_obj {g : Gd} {M : Mm} {H : Heap} {a ci : Nat} {q : vw_C} (hH : HH g M H) (hk : gK M a = ci) (hc : vwCl[ci]? = some q) : t_OB a (g.1.1 ci) q.2.2 (g.1.2 ci) H (fV M ci a) := by
  subst hk
  have hlt := vw_lt hc
  exact (hH.2.2 a (by omega)).2.2.1 q hc
theorem at_int {g : Gd} {M : Mm} {H : Heap} {a kd : Nat} (hH : HH g M H) (hk : gK M a = kd) (h : kd = 9 ∨ kd = 10 ∨ kd = 11) : H[a]? = some (arrV (g.2.1 kd) (gN M a) (fun j => .int (gI M a j))) := by
  subst hk
  exact (hH.2.2 a (by omega)).2.2.2.1 h
theorem at_ref {g : Gd} {M : Mm} {H : Heap} {a : Nat} (hH : HH g M H) (hk : gK M a = 12) : H[a]? = some (arrV (g.2.1 12) (gN M a) (fun j => va_rf (gR M a j))) := (hH.2.2 a (by omega)).2.2.2.2.1 hk
theorem at_long {g : Gd} {M : Mm} {H : Heap} {a : Nat} (hH : HH g M H) (hk : gK M a = 13) : H[a]? = some (arrV (g.2.1 13) (gN M a) (fun j => .long (gL M a j))) := (hH.2.2 a (by omega)).2.2.2.2.2 hk
theorem HH_upd {g : Gd} {M M' : Mm} {H H' : Heap} {a : Nat} (hH : HH g M H) (hsz : H'.size = H.size) (ho : ∀ q, q ≠ a → H'[q]? = H[q]?) (hT : gT M' = gT M) (hK : ∀ b, gK M' b = gK M b) (hN : ∀ b, gN M' b = gN M b) (hI : ∀ b, b ≠ a → gI M' b = gI M b) (hL : ∀ b, b ≠ a → gL M' b = gL M b) (hR : ∀ b, b ≠ a → gR M' b = gR M b) (hA : gK M a < 14 → At1 g.1 g.2.1 M' a H') : HH g M' H' := by
  refine ⟨by rw [hsz, hT]; exact hH.1, by rw [hT]; exact hH.2.1, fun b hb => ?_⟩
  rw [hK] at hb
  obtain ⟨h1, h2, h3⟩ := hH.2.2 b hb
  refine ⟨h1, by rw [hT]; exact h2, ?_⟩
  by_cases hba : b = a
  · subst hba; exact hA hb
  · have e := ho b hba
    obtain ⟨k1, k2, k3, k4⟩ := h3
    have ef : fV M' = fun kd c j => if c = b then fV M kd c j else fV M' kd c j := by
      funext kd c j
      by_cases hc : c = b
      · subst hc; simp [fV, hI c hba, hL c hba, hR c hba]
      · simp [hc]
    refine ⟨fun q hq => ?_, fun hq => ?_, fun hq => ?_, fun hq => ?_⟩
    · rw [hK] at hq ⊢
      exact ((k1 q hq).kept e).to (fun j _ => by rw [ef]; simp)
    · rw [hK] at hq ⊢
      rw [e, hN, hI b hba]; exact k2 hq
    · rw [hK] at hq
      rw [e, hN, hR b hba]; exact k3 hq
    · rw [hK] at hq
      rw [e, hN, hL b hba]; exact k4 hq
theorem HH_base {g : Gd} {M : Mm} {H : Heap} {a : Nat} (hH : HH g M H) (hk : gK M a < 14) : g.2.2.1 ≤ a ∧ a < gT M := ⟨(hH.2.2 a hk).1, (hH.2.2 a hk).2.1⟩
theorem loc_add {B a i : Nat} {locs : List Loc} (h : ∀ x ∈ locs, B ≤ x.base) (ha : B ≤ a) : ∀ x ∈ locs ++ [⟨a, i⟩], B ≤ x.base := fun x hx => by
  rcases List.mem_append.mp hx with h1 | h1
  · exact h x h1
  · rw [List.mem_singleton] at h1; subst h1; exact ha
theorem loc_app {B : Nat} {locs L : List Loc} (h : ∀ x ∈ locs, B ≤ x.base) (ha : ∀ x ∈ L, B ≤ x.base) : ∀ x ∈ locs ++ L, B ≤ x.base := fun x hx => by
  rcases List.mem_append.mp hx with h1 | h1
  · exact h x h1
  · exact ha x h1
/-- what the tables say of a kind of object -/
def ClOk (ci : Nat) (C : String) (T : u_T) (N : Nat) (ty : Nat → FieldType) : Prop :=
  vwCl[ci]? = some (C, T, N) ∧ (∀ w ∈ u_ws C T N, w ∈ Wd) ∧ (∀ k, k < N → parseFieldDescriptor (T k).2.2.1 = some (ty k)) ∧ (∀ a, a < N → ∀ b, b < N → a ≠ b → (T a).2.1 ≠ (T b).2.1) ∧ (∀ j, j < N → defaultValue (ty j) = if fK ci j = 0 then .int 0 else if fK ci j = 1 then .long 0 else .null)
section MEM
variable {z : Zt} {own : String} {cc : ByteArray} {nL : Nat} {rm : Room} {ret : Option FieldType} {pc : Nat} {lv : List (Nat × Value)} {st : List Value} {M : Mm} {k n : Nat} {α : Type} {r : Option (α × Mm)} {K : α → Mm → Prop}
variable {ci a j i : Nat} {C : String} {T : u_T} {N : Nat} {ty : Nat → FieldType}
theorem r_getV (hc : ClOk ci C T N ty) (hz : Good z own cc nL rm ret) (d : decode cc pc = .ok (.getfield i, 3)) (hj : j < N) (hw : Cond.fieldLink own i (T j).1 (T j).2.1 (T j).2.2.1 ∈ Wd) (h0 : gK M a = ci → Sim z (pc + 3) lv (fV M ci a j :: st) M k n r K) : Sim z pc lv (.ref a :: st) M k n (ck (gK M a = ci) r) K := by
  obtain ⟨g, p, l, e, R, s, m, args, below, meth, c, nLq, Q⟩ := z
  intro v0 M0 hr hK H locs ls hH hB hL hl
  obtain ⟨hk, hr⟩ := ck_some hr
  obtain ⟨hx, hb, hml, hown, hts, hKN, hlk, -, -, -⟩ := hz
  obtain ⟨hc1, hc2, hc3, hc4, -⟩ := hc
  obtain ⟨cell, q1, q2, q3, q4⟩ := at_obj hH hk hc1
  obtain ⟨hS, hfc, kC, hkC, hkind⟩ := hKN.1.1 ci _ hc1
  obtain ⟨cf, kf, fi, f, hi, hsl⟩ := hS j hj
  refine W.getf hx hb hown (hts _ hw) hi (u_facts hfc hkC (u_lays hts hc2 hj) hi).1 q1 (by rw [q3]; exact fun h => by cases h) (v := fV M ci a j) ?_ rfl rfl d (h0 hk v0 M0 hr hK H locs ls hH hB hL hl)
  rw [hsl, q4 j hj]
theorem r_getI (hc : ClOk ci C T N ty) (hz : Good z own cc nL rm ret) (d : decode cc pc = .ok (.getfield i, 3)) (hj : j < N) (hw : Cond.fieldLink own i (T j).1 (T j).2.1 (T j).2.2.1 ∈ Wd) (hf : fK ci j = 0) (h0 : Sim z (pc + 3) lv (.int (gI M a j) :: st) M k n r K) : Sim z pc lv (.ref a :: st) M k n (ck (gK M a = ci) r) K := by
  refine r_getV hc hz d hj hw (fun _ => ?_)
  have e : fV M ci a j = .int (gI M a j) := by simp [fV, hf]
  rw [e]; exact h0
theorem r_getL (hc : ClOk ci C T N ty) (hz : Good z own cc nL rm ret) (d : decode cc pc = .ok (.getfield i, 3)) (hj : j < N) (hw : Cond.fieldLink own i (T j).1 (T j).2.1 (T j).2.2.1 ∈ Wd) (hf : fK ci j = 1) (h0 : Sim z (pc + 3) lv (.long (gL M a j) :: st) M k n r K) : Sim z pc lv (.ref a :: st) M k n (ck (gK M a = ci) r) K := by
  refine r_getV hc hz d hj hw (fun _ => ?_)
  have e : fV M ci a j = .long (gL M a j) := by simp [fV, hf]
  rw [e]; exact h0
theorem r_getR {f : Nat → Option (α × Mm)} (hc : ClOk ci C T N ty) (hz : Good z own cc nL rm ret) (d : decode cc pc = .ok (.getfield i, 3)) (hj : j < N) (hw : Cond.fieldLink own i (T j).1 (T j).2.1 (T j).2.2.1 ∈ Wd) (hf : fK ci j = 2) (h0 : ∀ q, Sim z (pc + 3) lv (.ref q :: st) M k n (f q) K) : Sim z pc lv (.ref a :: st) M k n (ck (gK M a = ci) (bR (gR M a j) f)) K := by
  refine r_getV hc hz d hj hw (fun _ v0 M0 hr hK => ?_)
  obtain ⟨y, e1, e2⟩ := bR_some hr
  have e : fV M ci a j = .ref y := by simp [fV, hf, e1, va_rf]
  rw [e]; exact h0 y v0 M0 e2 hK
/-- a field is written: the memory behind it says so -/
theorem r_putV {v : Value} {M1 : Mm} (hc : ClOk ci C T N ty) (hz : Good z own cc nL rm ret) (d : decode cc pc = .ok (.putfield i, 3)) (hj : j < N) (hw : Cond.fieldLink own i (T j).1 (T j).2.1 (T j).2.2.1 ∈ Wd) (hfin : (T j).2.2.2 = false ∨ ((T j).1 = own ∧ z.2.2.2.2.2.2.2.2.2.1.name = "<init>"))
    (hn : narrow (ty j) v = v) (hfit : fits (ty j) v = true)
    (hT : gT M1 = gT M) (hKK : ∀ b, gK M1 b = gK M b) (hN : ∀ b, gN M1 b = gN M b) (hI : ∀ b, b ≠ a → gI M1 b = gI M b) (hLL : ∀ b, b ≠ a → gL M1 b = gL M b) (hRR : ∀ b, b ≠ a → gR M1 b = gR M b) (hV : ∀ b, b < N → updV (fV M ci a) j v b = fV M1 ci a b)
    (h0 : Sim z (pc + 3) lv st M1 k n r K) : Sim z pc lv (v :: .ref a :: st) M k n (ck (gK M a = ci) r) K := by
  obtain ⟨g, p, l, e, R, s, m, args, below, meth, c, nLq, Q⟩ := z
  intro v0 M0 hr hK H locs ls hH hB hL hl
  obtain ⟨hk, hr⟩ := ck_some hr
  obtain ⟨hx, hb, hml, hown, hts, hKN, hlk, -, -, -⟩ := hz
  obtain ⟨hc1, hc2, hc3, hc4, -⟩ := hc
  have hap := va_apart (own := own) hts hc2 ty hc3 hc4 hKN.1 hc1
  obtain ⟨cell, q1, q2, q3, q4⟩ := at_obj hH hk hc1
  obtain ⟨hS, hfc, kC, hkC, hkind⟩ := hKN.1.1 ci _ hc1
  obtain ⟨cf, kf, fi, f, hi, hsl⟩ := hS j hj
  have hci := vw_lt hc1
  have hba := (HH_base hH (by rw [hk]; omega)).1
  have hst := (u_facts hfc hkC (u_lays hts hc2 hj) hi).1
  have fin : ∀ H' : Heap, H'[a]? = some (cell.setSlot f.slot v) → H'.size = H.size → (∀ q, q ≠ a → H'[q]? = H[q]?) → W p l e R s m args below meth c H' (locs ++ [⟨a, f.slot⟩]) k n Q { (F0 m pc ls (v :: .ref a :: st)) with pc := pc + 3, stack := st } := by
    intro H' e1 e2 e3
    rw [hsl] at e1
    refine h0 v0 M0 hr hK H' _ ls (HH_upd hH e2 e3 hT hKK hN hI hLL hRR (fun _ => ?_)) (fun q hq => by rw [e3 q (by show ¬ q = a; have hq' : q < g.2.2.1 := hq; omega)]; exact hB q hq) (loc_add hL hba) hl
    refine ⟨fun q hq => ?_, fun hq => ?_, fun hq => ?_, fun hq => ?_⟩
    · rw [hKK, hk] at hq ⊢
      cases hc1.symm.trans hq
      exact t_OB.to (V := updV (fV M ci a) j v) ⟨_, e1, q2, q3, t_set q4 hap hj v⟩ hV
    · rw [hKK, hk] at hq; omega
    · rw [hKK, hk] at hq; omega
    · rw [hKK, hk] at hq; omega
  by_cases hf : (T j).2.2.2 = true
  · rcases hfin with hfin | ⟨hd1, hd2⟩
    · rw [hfin] at hf; cases hf
    · have hlay := hts _ (hc2 _ (u_in_lay hj))
      unfold u_lay at hlay
      rw [if_pos hf] at hlay
      have hcf : m.cls = cf := by
        obtain ⟨_, _, c', _, _, _, -, -, hf', -, -, -, hown2, -⟩ := Cond.laysFinal_spec hlay
        have e1 : c' = cf := by have := hi.symm.trans hf'; simp at this; exact this.1.symm
        rw [hd1] at hown2
        rw [← e1]; exact Option.some.inj (hown.symm.trans hown2)
      have h6 := u_fits hfc hkC hkind (Or.inr hlay) hi (hc3 j hj) hn hfit
      exact W.putFinK hx hb hown (hts _ hw) hi hst hcf hd2 (by rw [q2]; exact h6) q1 q3 (by rw [hsl]; exact k2_hasslot (q4 j hj)) rfl rfl d fin
  · have hlay := hts _ (hc2 _ (u_in_lay hj))
    unfold u_lay at hlay
    rw [if_neg hf] at hlay
    have h6 := u_store hfc hkC hkind hlay hi (hc3 j hj) hn hfit
    exact W.putK hx hb (f := f) ⟨hown, hts _ hw, ⟨_, _, _, hi⟩, hst⟩ (by rw [q2]; exact h6) q1 q3 (by rw [hsl]; exact k2_hasslot (q4 j hj)) rfl rfl d fin
theorem r_putI {v : Int32} (hc : ClOk ci C T N ty) (hz : Good z own cc nL rm ret) (d : decode cc pc = .ok (.putfield i, 3)) (hj : j < N) (hw : Cond.fieldLink own i (T j).1 (T j).2.1 (T j).2.2.1 ∈ Wd) (hfin : (T j).2.2.2 = false ∨ ((T j).1 = own ∧ z.2.2.2.2.2.2.2.2.2.1.name = "<init>"))
    (hf : fK ci j = 0) (hn : narrow (ty j) (.int v) = .int v) (hfit : fits (ty j) (.int v) = true) (h0 : Sim z (pc + 3) lv st (sI M a j v) k n r K) : Sim z pc lv (.int v :: .ref a :: st) M k n (ck (gK M a = ci) r) K := by
  refine r_putV (M1 := sI M a j v) hc hz d hj hw hfin hn hfit rfl (fun _ => rfl) (fun _ => rfl) (fun b hb => ?_) (fun _ _ => rfl) (fun _ _ => rfl) (fun b _ => ?_) h0
  · funext i; simp [gI_sI, hb]
  · by_cases hbj : b = j
    · subst hbj; simp [updV, fV, hf, gI_sI]
    · simp [updV, fV, hbj, gI_sI, gL_sI, gR_sI]
theorem r_putL {v : Int64} (hc : ClOk ci C T N ty) (hz : Good z own cc nL rm ret) (d : decode cc pc = .ok (.putfield i, 3)) (hj : j < N) (hw : Cond.fieldLink own i (T j).1 (T j).2.1 (T j).2.2.1 ∈ Wd) (hfin : (T j).2.2.2 = false ∨ ((T j).1 = own ∧ z.2.2.2.2.2.2.2.2.2.1.name = "<init>"))
    (hf : fK ci j = 1) (hn : narrow (ty j) (.long v) = .long v) (hfit : fits (ty j) (.long v) = true) (h0 : Sim z (pc + 3) lv st (sL M a j v) k n r K) : Sim z pc lv (.long v :: .ref a :: st) M k n (ck (gK M a = ci) r) K := by
  refine r_putV (M1 := sL M a j v) hc hz d hj hw hfin hn hfit rfl (fun _ => rfl) (fun _ => rfl) (fun _ _ => rfl) (fun b hb => ?_) (fun _ _ => rfl) (fun b _ => ?_) h0
  · funext i; simp [gL_sL, hb]
  · by_cases hbj : b = j
    · subst hbj; simp [updV, fV, hf, gL_sL]
    · simp [updV, fV, hbj, gI_sL, gL_sL, gR_sL]
theorem r_putR {v : Nat} (hc : ClOk ci C T N ty) (hz : Good z own cc nL rm ret) (d : decode cc pc = .ok (.putfield i, 3)) (hj : j < N) (hw : Cond.fieldLink own i (T j).1 (T j).2.1 (T j).2.2.1 ∈ Wd) (hfin : (T j).2.2.2 = false ∨ ((T j).1 = own ∧ z.2.2.2.2.2.2.2.2.2.1.name = "<init>"))
    (hf : fK ci j = 2) (hn : narrow (ty j) (.ref v) = .ref v) (hfit : fits (ty j) (.ref v) = true) (h0 : Sim z (pc + 3) lv st (sR M a j (some v)) k n r K) : Sim z pc lv (.ref v :: .ref a :: st) M k n (ck (gK M a = ci) r) K := by
  refine r_putV (M1 := sR M a j (some v)) hc hz d hj hw hfin hn hfit rfl (fun _ => rfl) (fun _ => rfl) (fun _ _ => rfl) (fun _ _ => rfl) (fun b hb => ?_) (fun b _ => ?_) h0
  · funext i; simp [gR_sR, hb]
  · by_cases hbj : b = j
    · subst hbj; simp [updV, fV, hf, gR_sR, va_rf]
    · simp [updV, fV, hbj, gI_sR, gL_sR, gR_sR]
theorem r_getS {nm9 : String} {v : Int32} (hz : Good z own cc nL rm ret) (d : decode cc pc = .ok (.getstatic i, 3)) (hm : (nm9, v) ∈ stL) (hw : Cond.fieldLink own i "DrawnBondsModel" nm9 "I" ∈ Wd) (h0 : Sim z (pc + 3) lv (.int v :: st) M k n r K) : Sim z pc lv st M k n r K := by
  obtain ⟨g, p, l, e, R, s, m, args, below, meth, c, nLq, Q⟩ := z
  intro v0 M0 hr hK H locs ls hH hB hL hl
  obtain ⟨hx, hb, hml, hown, hts, hKN, hlk, -, -, -⟩ := hz
  obtain ⟨cf, kf, fi, f, a, cell, h1, h2, h3, h4, h5, h6, h7, h8⟩ := hKN.2.1 _ hm
  exact W.gets hx hb hown (hts _ hw) h1 h2 h3 h4 (by rw [hB a (Nat.not_le.mp h8)]; exact h5) (fun e => by rw [e] at h6; cases h6) h7 rfl d (h0 v0 M0 hr hK H locs ls hH hB hL hl)
end MEM
