def GoodL (z : Zt) (b L : Nat) (xs : Nat → Int32) : Prop := match z with
  | (g, _, l, _, R, s, _, args, below, meth, _, _, Q) => g.2.2.1 = s.heap.size ∧ va_X b L xs s s.heap ∧ b < s.heap.size ∧ args = #[Value.ref b] ∧ Q = lw_Z below #[Value.ref b] s ∧ XZ g s ∧ l.stackTraces = false ∧ R = room_1 ∧ meth.sig.returnType = ret
section LAW
variable {z : Zt} {b L : Nat} {xs : Nat → Int32} {pc : Nat} {lv : List (Nat × Value)} {st : List Value} {M : Mm} {k n : Nat} {r : Option (Int32 × Mm)} {K : Int32 → Mm → Prop} {rr : Option FieldType}
theorem r_sld {x : Int32} (hz : Good z RL code 7 room_1 rr) (hG : GoodL z b L xs) (d : decode code pc = .ok (.iaload, 1)) {dc : Decidable (inb x L)} (h0 : Sim z (pc + 1) lv (.int (xs x.toNatClampNeg) :: st) M k n r K) : Sim z pc lv (.int x :: .ref b :: st) M k n (ck (inb x L) r) K := by
  refine r_ck (fun hin => ?_)
  obtain ⟨g, p, l, e, R, s, m, args, below, meth, c, nLq, Q⟩ := z
  intro v0 M0 hr hK H locs ls hH hB hL hl
  obtain ⟨hBs, ⟨scr, h1, h2, h3, h4, h5⟩, hbl, -⟩ := hG
  have hH1 : H[b]? = some scr := by rw [hB b (by show b < g.2.2.1; rw [hBs]; exact hbl)]; exact h1
  exact W.iald (v := .int (xs x.toNatClampNeg)) hz.1 hz.2.1 hH1 h2 h3 (by rw [h4]; exact hin) (h5 _ (in_lt hin)) rfl rfl d (h0 v0 M0 hr hK H locs ls hH hB hL hl)
theorem r_slen (hz : Good z RL code 7 room_1 rr) (hG : GoodL z b L xs) (d : decode code pc = .ok (.arraylength, 1)) (h0 : Sim z (pc + 1) lv (.int (Int32.ofNat L) :: st) M k n r K) : Sim z pc lv (.ref b :: st) M k n r K := by
  obtain ⟨g, p, l, e, R, s, m, args, below, meth, c, nLq, Q⟩ := z
  intro v0 M0 hr hK H locs ls hH hB hL hl
  obtain ⟨hBs, ⟨scr, h1, h2, h3, h4, h5⟩, hbl, -⟩ := hG
  have hH1 : H[b]? = some scr := by rw [hB b (by show b < g.2.2.1; rw [hBs]; exact hbl)]; exact h1
  exact W.alen (n := Int32.ofNat L) hz.1 hz.2.1 hH1 h2 (by rw [h4]) rfl rfl d (h0 v0 M0 hr hK H locs ls hH hB hL hl)
theorem r_lawret (hz : Good z RL code 7 room_1 rr) (hG : GoodL z b L xs) (d : decode code pc = .ok (.ireturn, 1)) (h1 : k ≤ 601024) (h2 : n ≤ 7293034) : Sim z pc lv [.int 1] M k n (some (1, M)) K := by
  obtain ⟨g, p, l, e, R, s, m, args, below, meth, c, nLq, Q⟩ := z
  intro v0 M0 hr hK H locs ls hH hB hL hl
  obtain ⟨hBs, hX, hbl, ha, hQ, -, -, hR, hrt⟩ := hG
  subst ha
  subst hQ
  subst hR
  obtain ⟨hx, hb, hml, hown, hts, hKN, hlk, -, -, -⟩ := hz
  refine va_forget (fun q hq => by rw [← hBs]; exact hL q hq) ?_
  refine W.widen (k := 601024) (n := 7293034) h1 h2 ?_
  exact lw_ret hx hb hrt hlk d
theorem wd_lloan : Cond.codeWith yL_loan cL_loan 5 (some .int) xTab ∈ Wd := wd_t4 218 rfl rfl
theorem r_callLoan {x1 x3 : Nat} {p1 p2 : Int32} {f : Int32 → Mm → Option (Int32 × Mm)} (hz : Good z RL code 7 room_1 rr) (hG : GoodL z b L xs) (d : decode code pc = .ok (.invokestatic 33, 3)) (hW : (st.map fun v => v.category).sum ≤ 8) (hc : k + 1 ≤ 601024 ∧ n + 6 ≤ 7293034)
    (h0 : ∀ x M1, Sim z (pc + 3) lv (.int x :: st) M1 (k + 1) (n + 6) (f x M1) K) : Sim z pc lv (.ref x3 :: .int p2 :: .int p1 :: .ref x1 :: st) M k n (bd (f_L_loan x1 p1 p2 x3 M) f) K := by
  obtain ⟨g, p, l, e, R, s, m, args, below, meth, c, nLq, Q⟩ := z
  intro v0 M0 hr hK H locs ls hH hB hL hl
  obtain ⟨x, M1, e1, e2⟩ := bd_some hr
  obtain ⟨hx, hb, hml, hown, hts, hKN, hlk, hnl, hRm, hrt⟩ := hz
  obtain ⟨hBs, hX, hbl, ha, hQ, hXZ, hst, hR, hrt2⟩ := hG
  subst hRm
  have hts' : ∀ w ∈ Wd, w.before args s = true := hts
  have hGI : GoodIn Wd (va_wsS RL 33 yL_loan (Cond.codeWith yL_loan cL_loan 5 (some .int) xTab :: Wd)) := fun w hw => by
    have hw' : w ∈ Wd := by
      rcases List.mem_append.mp hw with h | h
      · simp only [List.mem_cons, List.not_mem_nil, or_false] at h
        rcases h with h | h | h
        · rw [h]; exact wm_4_216
        · rw [h]; exact wm_4_217
        · rw [h]; exact wm_1_0
      · rcases List.mem_cons.mp h with h | h
        · rw [h]; exact wd_lloan
        · exact h
    exact ⟨hw', good_of_word (wd_good hw')⟩
  have hrun := vx_runSW (p := p) (l := l) (e := e) (R := room_1) (s := s) (m := m) (args := args) (below := below) (meth := meth) (c := c) (H := H) (locs := locs) (cells := k) (slots := n) (Ts := Wd) (own := RL) (As := [.ref x1, .int p1, .int p2, .ref x3]) (rest := st) (g := F0 m pc ls (.ref x3 :: .int p2 :: .int p1 :: .ref x1 :: st)) (nL := 7) ⟨hx, hb, hml, hown, hts'⟩ (t_L_loan x1 p1 p2 x3 M x M1 e1 l g hst) (vx_cwSW 4 hts' hGI rfl rfl rfl ⟨by decide, by decide, by decide +kernel⟩ ⟨Nat.le_of_ble_eq_true rfl, Nat.le_of_ble_eq_true rfl⟩) ⟨pox_blind, fun U hU hWm => ⟨pre_of hKN hH hB U hU hWm, XZ.to hXZ hWm (fun q hq => by rw [hU]; exact hB q hq)⟩⟩ rfl rfl (by rw [hl.1, hnl]) rfl (lv_room hW) d hc
  intro T hT X
  obtain ⟨v, st₀, t, T', L9, q0, X', qL, e3, e4, ⟨hv, hH', hO⟩, st'⟩ := hrun T hT X
  have hv' : v = zI x := Outcome.returned.inj hv
  subst hv'
  obtain ⟨t2, a1, b1⟩ := h0 x M1 v0 M0 e2 hK T'.heap (locs ++ L9) ls (by rw [e3]; exact hH') (fun q hq => by rw [e3, hO q hq, q0]; exact hB q hq) (loc_app hL qL) hl T' rfl X'
  exact ⟨t2, st' t2 a1, b1⟩
end LAW
def f_law_c0 (xs : Nat → Int32) (L x1 x2 x3 : Nat) (x4 : Int32) (r : Mm → Option (Int32 × Mm)) (M : Mm) : Option (Int32 × Mm) :=
  ck (inb (x4 + (1 : Int32)) L) (ck (inb (x4 + (2 : Int32)) L) (ck (inb (x4 + (3 : Int32)) L) (ck (inb (x4 + (4 : Int32)) L) (ck (inb (x4 + (5 : Int32)) L) (ck (gK M x1 = 7) (bd (f_X7_feed x1 (xs ((x4 + (1 : Int32))).toNatClampNeg) (xs ((x4 + (2 : Int32))).toNatClampNeg) (xs ((x4 + (3 : Int32))).toNatClampNeg) (xs ((x4 + (4 : Int32))).toNatClampNeg) (xs ((x4 + (5 : Int32))).toNatClampNeg) M) fun v2 M1 =>
  ck (inb (x4 + (1 : Int32)) L) (ck (inb (x4 + (2 : Int32)) L) (ck (inb (x4 + (3 : Int32)) L) (ck (inb (x4 + (4 : Int32)) L) (ck (inb (x4 + (5 : Int32)) L) (ck (gK M1 x2 = 8) (bd (f_X8_feed x2 (xs ((x4 + (1 : Int32))).toNatClampNeg) (xs ((x4 + (2 : Int32))).toNatClampNeg) (xs ((x4 + (3 : Int32))).toNatClampNeg) (xs ((x4 + (4 : Int32))).toNatClampNeg) (xs ((x4 + (5 : Int32))).toNatClampNeg) M1) fun v4 M3 =>
  (if v2 = v4 then
    r M3
  else
    none)))))))))))))
set_option maxRecDepth 20000 in
set_option maxHeartbeats 4000000 in
theorem s_law_c0 {z : Zt} {b L : Nat} {xs : Nat → Int32} {K : Int32 → Mm → Prop} {rr : Option FieldType} (hz : Good z RL code 7 room_1 rr) (hG : GoodL z b L xs) (kk nn : Nat) (hk : kk + 20 ≤ 601024) (hn : nn + 3000 ≤ 7293034) {x1 x2 x3 : Nat} {x4 : Int32} {r : Mm → Option (Int32 × Mm)} (HR : ∀ M, Sim z 1559 [(0, .ref b), (1, .ref x1), (2, .ref x2), (3, .ref x3), (4, .int x4)] [] M (kk + 20) (nn + 3000) (r M) K) : ∀ M, Sim z 196 [(0, .ref b), (1, .ref x1), (2, .ref x2), (3, .ref x3), (4, .int x4)] [] M kk nn (f_law_c0 xs L x1 x2 x3 x4 r M) K := by
  intro M
  unfold f_law_c0
  refine r_aload_n hz dL_law_196 1 rfl ?_
  refine r_aload_n hz dL_law_197 0 rfl ?_
  refine r_iload hz dL_law_198 4 rfl ?_
  refine r_iconst (v := 1) hz dL_law_200 rfl ?_
  refine r_iadd hz dL_law_201 ?_
  refine r_sld hz hG dL_law_202 ?_
  refine r_aload_n hz dL_law_203 0 rfl ?_
  refine r_iload hz dL_law_204 4 rfl ?_
  refine r_iconst (v := 2) hz dL_law_206 rfl ?_
  refine r_iadd hz dL_law_207 ?_
  refine r_sld hz hG dL_law_208 ?_
  refine r_aload_n hz dL_law_209 0 rfl ?_
  refine r_iload hz dL_law_210 4 rfl ?_
  refine r_iconst (v := 3) hz dL_law_212 rfl ?_
  refine r_iadd hz dL_law_213 ?_
  refine r_sld hz hG dL_law_214 ?_
  refine r_aload_n hz dL_law_215 0 rfl ?_
  refine r_iload hz dL_law_216 4 rfl ?_
  refine r_iconst (v := 4) hz dL_law_218 rfl ?_
  refine r_iadd hz dL_law_219 ?_
  refine r_sld hz hG dL_law_220 ?_
  refine r_aload_n hz dL_law_221 0 rfl ?_
  refine r_iload hz dL_law_222 4 rfl ?_
  refine r_iconst (v := 5) hz dL_law_224 rfl ?_
  refine r_iadd hz dL_law_225 ?_
  refine r_sld hz hG dL_law_226 ?_
  refine r_callVi (As := fun _ => [.int (xs ((x4 + (1 : Int32))).toNatClampNeg), .int (xs ((x4 + (2 : Int32))).toNatClampNeg), .int (xs ((x4 + (3 : Int32))).toNatClampNeg), .int (xs ((x4 + (4 : Int32))).toNatClampNeg), .int (xs ((x4 + (5 : Int32))).toNatClampNeg)]) cl7 hz (fun _ _ h => t_X7_feed _ _ _ _ _ _ _ _ _ h) cal_X7_feed dL_law_227 wm_2_141 wm_2_142 wm_2_143 rfl rfl (Nat.le_of_ble_eq_true rfl) ⟨(Nat.le_of_ble_eq_true rfl), (Nat.le_of_ble_eq_true rfl)⟩ ⟨by show kk + 0 ≤ 601024; omega, by show nn + 0 ≤ 7293034; omega⟩ (fun v2 M1 => ?_)
  refine r_aload_n hz dL_law_230 2 rfl ?_
  refine r_aload_n hz dL_law_231 0 rfl ?_
  refine r_iload hz dL_law_232 4 rfl ?_
  refine r_iconst (v := 1) hz dL_law_234 rfl ?_
  refine r_iadd hz dL_law_235 ?_
  refine r_sld hz hG dL_law_236 ?_
  refine r_aload_n hz dL_law_237 0 rfl ?_
  refine r_iload hz dL_law_238 4 rfl ?_
  refine r_iconst (v := 2) hz dL_law_240 rfl ?_
  refine r_iadd hz dL_law_241 ?_
  refine r_sld hz hG dL_law_242 ?_
  refine r_aload_n hz dL_law_243 0 rfl ?_
  refine r_iload hz dL_law_244 4 rfl ?_
  refine r_iconst (v := 3) hz dL_law_246 rfl ?_
  refine r_iadd hz dL_law_247 ?_
  refine r_sld hz hG dL_law_248 ?_
  refine r_aload_n hz dL_law_249 0 rfl ?_
  refine r_iload hz dL_law_250 4 rfl ?_
  refine r_iconst (v := 4) hz dL_law_252 rfl ?_
  refine r_iadd hz dL_law_253 ?_
  refine r_sld hz hG dL_law_254 ?_
  refine r_aload_n hz dL_law_255 0 rfl ?_
  refine r_iload hz dL_law_256 4 rfl ?_
  refine r_iconst (v := 5) hz dL_law_258 rfl ?_
  refine r_iadd hz dL_law_259 ?_
  refine r_sld hz hG dL_law_260 ?_
  refine r_callVi (As := fun _ => [.int (xs ((x4 + (1 : Int32))).toNatClampNeg), .int (xs ((x4 + (2 : Int32))).toNatClampNeg), .int (xs ((x4 + (3 : Int32))).toNatClampNeg), .int (xs ((x4 + (4 : Int32))).toNatClampNeg), .int (xs ((x4 + (5 : Int32))).toNatClampNeg)]) cl8 hz (fun _ _ h => t_X8_feed _ _ _ _ _ _ _ _ _ h) cal_X8_feed dL_law_261 wm_5_163 wm_5_164 wm_5_165 rfl rfl (Nat.le_of_ble_eq_true rfl) ⟨(Nat.le_of_ble_eq_true rfl), (Nat.le_of_ble_eq_true rfl)⟩ ⟨by show kk + 0 + 0 ≤ 601024; omega, by show nn + 0 + 0 ≤ 7293034; omega⟩ (fun v4 M3 => ?_)
  refine r_icmp_eq (tgt := 1559) hz dL_law_264 rfl ?_ ?_
  · refine r_cs (k' := kk + 20) (n' := nn + 3000) (by show kk + 0 + 0 ≤ kk + 20; omega) (by show nn + 0 + 0 ≤ nn + 3000; omega) ?_
    exact HR M3
  · refine r_iconst (v := 0) hz dL_law_267 rfl ?_
    exact r_none
def f_law_c1 (xs : Nat → Int32) (L x1 x2 x3 : Nat) (x4 : Int32) (r : Mm → Option (Int32 × Mm)) (M : Mm) : Option (Int32 × Mm) :=
  ck (inb (x4 + (1 : Int32)) L) (ck (gK M x1 = 7) (bd (f_X7_text x1 (xs ((x4 + (1 : Int32))).toNatClampNeg) M) fun v2 M1 =>
  ck (inb (x4 + (1 : Int32)) L) (ck (gK M1 x2 = 8) (bd (f_X8_text x2 (xs ((x4 + (1 : Int32))).toNatClampNeg) M1) fun v4 M3 =>
  (if v2 = v4 then
    r M3
  else
    none)))))
set_option maxRecDepth 20000 in
set_option maxHeartbeats 4000000 in
theorem s_law_c1 {z : Zt} {b L : Nat} {xs : Nat → Int32} {K : Int32 → Mm → Prop} {rr : Option FieldType} (hz : Good z RL code 7 room_1 rr) (hG : GoodL z b L xs) (kk nn : Nat) (hk : kk + 20 ≤ 601024) (hn : nn + 3000 ≤ 7293034) {x1 x2 x3 : Nat} {x4 : Int32} {r : Mm → Option (Int32 × Mm)} (HR : ∀ M, Sim z 1559 [(0, .ref b), (1, .ref x1), (2, .ref x2), (3, .ref x3), (4, .int x4)] [] M (kk + 20) (nn + 3000) (r M) K) : ∀ M, Sim z 269 [(0, .ref b), (1, .ref x1), (2, .ref x2), (3, .ref x3), (4, .int x4)] [] M kk nn (f_law_c1 xs L x1 x2 x3 x4 r M) K := by
  intro M
  unfold f_law_c1
  refine r_aload_n hz dL_law_269 1 rfl ?_
  refine r_aload_n hz dL_law_270 0 rfl ?_
  refine r_iload hz dL_law_271 4 rfl ?_
  refine r_iconst (v := 1) hz dL_law_273 rfl ?_
  refine r_iadd hz dL_law_274 ?_
  refine r_sld hz hG dL_law_275 ?_
  refine r_callVi (As := fun _ => [.int (xs ((x4 + (1 : Int32))).toNatClampNeg)]) cl7 hz (fun _ _ h => t_X7_text _ _ _ _ _ h) cal_X7_text dL_law_276 wm_2_149 wm_2_150 wm_2_151 rfl rfl (Nat.le_of_ble_eq_true rfl) ⟨(Nat.le_of_ble_eq_true rfl), (Nat.le_of_ble_eq_true rfl)⟩ ⟨by show kk + 0 ≤ 601024; omega, by show nn + 0 ≤ 7293034; omega⟩ (fun v2 M1 => ?_)
  refine r_aload_n hz dL_law_279 2 rfl ?_
  refine r_aload_n hz dL_law_280 0 rfl ?_
  refine r_iload hz dL_law_281 4 rfl ?_
  refine r_iconst (v := 1) hz dL_law_283 rfl ?_
  refine r_iadd hz dL_law_284 ?_
  refine r_sld hz hG dL_law_285 ?_
  refine r_callVi (As := fun _ => [.int (xs ((x4 + (1 : Int32))).toNatClampNeg)]) cl8 hz (fun _ _ h => t_X8_text _ _ _ _ _ h) cal_X8_text dL_law_286 wm_5_171 wm_5_172 wm_5_173 rfl rfl (Nat.le_of_ble_eq_true rfl) ⟨(Nat.le_of_ble_eq_true rfl), (Nat.le_of_ble_eq_true rfl)⟩ ⟨by show kk + 0 + 0 ≤ 601024; omega, by show nn + 0 + 0 ≤ 7293034; omega⟩ (fun v4 M3 => ?_)
  refine r_icmp_eq (tgt := 1559) hz dL_law_289 rfl ?_ ?_
  · refine r_cs (k' := kk + 20) (n' := nn + 3000) (by show kk + 0 + 0 ≤ kk + 20; omega) (by show nn + 0 + 0 ≤ nn + 3000; omega) ?_
    exact HR M3
  · refine r_iconst (v := 0) hz dL_law_292 rfl ?_
    exact r_none
def f_law_c2 (xs : Nat → Int32) (L x1 x2 x3 : Nat) (x4 : Int32) (r : Mm → Option (Int32 × Mm)) (M : Mm) : Option (Int32 × Mm) :=
  ck (inb (x4 + (1 : Int32)) L) (ck (gK M x1 = 7) (bd (f_X7_count x1 (xs ((x4 + (1 : Int32))).toNatClampNeg) M) fun v2 M1 =>
  ck (inb (x4 + (1 : Int32)) L) (ck (gK M1 x2 = 8) (bd (f_X8_count x2 (xs ((x4 + (1 : Int32))).toNatClampNeg) M1) fun v4 M3 =>
  (if v2 = v4 then
    r M3
  else
    none)))))
set_option maxRecDepth 20000 in
set_option maxHeartbeats 4000000 in
theorem s_law_c2 {z : Zt} {b L : Nat} {xs : Nat → Int32} {K : Int32 → Mm → Prop} {rr : Option FieldType} (hz : Good z RL code 7 room_1 rr) (hG : GoodL z b L xs) (kk nn : Nat) (hk : kk + 20 ≤ 601024) (hn : nn + 3000 ≤ 7293034) {x1 x2 x3 : Nat} {x4 : Int32} {r : Mm → Option (Int32 × Mm)} (HR : ∀ M, Sim z 1559 [(0, .ref b), (1, .ref x1), (2, .ref x2), (3, .ref x3), (4, .int x4)] [] M (kk + 20) (nn + 3000) (r M) K) : ∀ M, Sim z 294 [(0, .ref b), (1, .ref x1), (2, .ref x2), (3, .ref x3), (4, .int x4)] [] M kk nn (f_law_c2 xs L x1 x2 x3 x4 r M) K := by
  intro M
  unfold f_law_c2
  refine r_aload_n hz dL_law_294 1 rfl ?_
  refine r_aload_n hz dL_law_295 0 rfl ?_
  refine r_iload hz dL_law_296 4 rfl ?_
  refine r_iconst (v := 1) hz dL_law_298 rfl ?_
  refine r_iadd hz dL_law_299 ?_
  refine r_sld hz hG dL_law_300 ?_
  refine r_callVi (As := fun _ => [.int (xs ((x4 + (1 : Int32))).toNatClampNeg)]) cl7 hz (fun _ _ h => t_X7_count _ _ _ _ _ h) cal_X7_count dL_law_301 wm_3_120 wm_3_121 wm_3_122 rfl rfl (Nat.le_of_ble_eq_true rfl) ⟨(Nat.le_of_ble_eq_true rfl), (Nat.le_of_ble_eq_true rfl)⟩ ⟨by show kk + 0 ≤ 601024; omega, by show nn + 0 ≤ 7293034; omega⟩ (fun v2 M1 => ?_)
  refine r_aload_n hz dL_law_304 2 rfl ?_
  refine r_aload_n hz dL_law_305 0 rfl ?_
  refine r_iload hz dL_law_306 4 rfl ?_
  refine r_iconst (v := 1) hz dL_law_308 rfl ?_
  refine r_iadd hz dL_law_309 ?_
  refine r_sld hz hG dL_law_310 ?_
  refine r_callVi (As := fun _ => [.int (xs ((x4 + (1 : Int32))).toNatClampNeg)]) cl8 hz (fun _ _ h => t_X8_count _ _ _ _ _ h) cal_X8_count dL_law_311 wm_6_54 wm_6_55 wm_6_56 rfl rfl (Nat.le_of_ble_eq_true rfl) ⟨(Nat.le_of_ble_eq_true rfl), (Nat.le_of_ble_eq_true rfl)⟩ ⟨by show kk + 0 + 0 ≤ 601024; omega, by show nn + 0 + 0 ≤ 7293034; omega⟩ (fun v4 M3 => ?_)
  refine r_icmp_eq (tgt := 1559) hz dL_law_314 rfl ?_ ?_
  · refine r_cs (k' := kk + 20) (n' := nn + 3000) (by show kk + 0 + 0 ≤ kk + 20; omega) (by show nn + 0 + 0 ≤ nn + 3000; omega) ?_
    exact HR M3
  · refine r_iconst (v := 0) hz dL_law_317 rfl ?_
    exact r_none
def f_law_c3 (xs : Nat → Int32) (L x1 x2 x3 : Nat) (x4 : Int32) (r : Mm → Option (Int32 × Mm)) (M : Mm) : Option (Int32 × Mm) :=
  ck (inb (x4 + (1 : Int32)) L) (ck (inb (x4 + (2 : Int32)) L) (bd (f_L_loan x1 (xs ((x4 + (1 : Int32))).toNatClampNeg) (xs ((x4 + (2 : Int32))).toNatClampNeg) x3 M) fun v2 M1 =>
  ck (inb (x4 + (1 : Int32)) L) (ck (inb (x4 + (2 : Int32)) L) (ck (gK M1 x2 = 8) (bd (f_X8_loan x2 (xs ((x4 + (1 : Int32))).toNatClampNeg) (xs ((x4 + (2 : Int32))).toNatClampNeg) M1) fun v4 M3 =>
  ck (gK M3 x2 = 8) (bd (f_X8_thrown x2 M3) fun v6 M5 =>
  (if v6 = v2 then
    (if ¬ v2 = 0 then
      r M5
    else
      ck (gK M5 x3 = 13 ∧ inb (0 : Int32) (gN M5 x3)) ((if (gL M5 x3 ((0 : Int32)).toNatClampNeg) = (v4).toInt64 then
        r M5
      else
        none)))
  else
    none)))))))
set_option maxRecDepth 20000 in
set_option maxHeartbeats 4000000 in
theorem s_law_c3 {z : Zt} {b L : Nat} {xs : Nat → Int32} {K : Int32 → Mm → Prop} {rr : Option FieldType} (hz : Good z RL code 7 room_1 rr) (hG : GoodL z b L xs) (kk nn : Nat) (hk : kk + 20 ≤ 601024) (hn : nn + 3000 ≤ 7293034) {x1 x2 x3 : Nat} {x4 : Int32} {r : Mm → Option (Int32 × Mm)} (HR : ∀ M, Sim z 1559 [(0, .ref b), (1, .ref x1), (2, .ref x2), (3, .ref x3), (4, .int x4)] [] M (kk + 20) (nn + 3000) (r M) K) : ∀ M, Sim z 319 [(0, .ref b), (1, .ref x1), (2, .ref x2), (3, .ref x3), (4, .int x4)] [] M kk nn (f_law_c3 xs L x1 x2 x3 x4 r M) K := by
  intro M
  unfold f_law_c3
  refine r_aload_n hz dL_law_319 1 rfl ?_
  refine r_aload_n hz dL_law_320 0 rfl ?_
  refine r_iload hz dL_law_321 4 rfl ?_
  refine r_iconst (v := 1) hz dL_law_323 rfl ?_
  refine r_iadd hz dL_law_324 ?_
  refine r_sld hz hG dL_law_325 ?_
  refine r_aload_n hz dL_law_326 0 rfl ?_
  refine r_iload hz dL_law_327 4 rfl ?_
  refine r_iconst (v := 2) hz dL_law_329 rfl ?_
  refine r_iadd hz dL_law_330 ?_
  refine r_sld hz hG dL_law_331 ?_
  refine r_aload_n hz dL_law_332 3 rfl ?_
  refine r_callLoan hz hG dL_law_333 (Nat.le_of_ble_eq_true rfl) ⟨by show kk + 1 ≤ 601024; omega, by show nn + 6 ≤ 7293034; omega⟩ (fun v2 M1 => ?_)
  refine r_istore (lv' := [(5, .int v2), (0, .ref b), (1, .ref x1), (2, .ref x2), (3, .ref x3), (4, .int x4)]) hz dL_law_336 (by decide) rfl ?_
  refine r_aload_n hz dL_law_338 3 rfl ?_
  refine r_aload_n hz dL_law_339 1 rfl ?_
  refine r_iload hz dL_law_340 5 rfl ?_
  refine r_iconst (v := 1) hz dL_law_342 rfl ?_
  refine r_iadd hz dL_law_343 ?_
  refine r_sld hz hG dL_law_344 ?_
  refine r_aload_n hz dL_law_345 1 rfl ?_
  refine r_iload hz dL_law_346 5 rfl ?_
  refine r_iconst (v := 2) hz dL_law_348 rfl ?_
  refine r_iadd hz dL_law_349 ?_
  refine r_sld hz hG dL_law_350 ?_
  refine r_callVi (As := fun _ => [.int (xs ((x4 + (1 : Int32))).toNatClampNeg), .int (xs ((x4 + (2 : Int32))).toNatClampNeg)]) cl8 hz (fun _ _ h => t_X8_loan _ _ _ _ _ _ h) cal_X8_loan dL_law_351 wm_6_75 wm_6_76 wm_6_77 rfl rfl (Nat.le_of_ble_eq_true rfl) ⟨(Nat.le_of_ble_eq_true rfl), (Nat.le_of_ble_eq_true rfl)⟩ ⟨by show kk + 1 + 0 ≤ 601024; omega, by show nn + 6 + 0 ≤ 7293034; omega⟩ (fun v4 M3 => ?_)
  refine r_istore (lv' := [(6, .int v4), (5, .int v2), (0, .ref b), (1, .ref x1), (2, .ref x2), (3, .ref x3), (4, .int x4)]) hz dL_law_354 (by decide) rfl ?_
  refine r_aload_n hz dL_law_356 4 rfl ?_
  refine r_callVi (As := fun _ => []) cl8 hz (fun _ _ h => t_X8_thrown _ _ _ _ h) cal_X8_thrown dL_law_357 wm_5_159 wm_5_160 wm_5_161 rfl rfl (Nat.le_of_ble_eq_true rfl) ⟨(Nat.le_of_ble_eq_true rfl), (Nat.le_of_ble_eq_true rfl)⟩ ⟨by show kk + 1 + 0 + 0 ≤ 601024; omega, by show nn + 6 + 0 + 0 ≤ 7293034; omega⟩ (fun v6 M5 => ?_)
  refine r_iload hz dL_law_360 1 rfl ?_
  refine r_icmp_eq (tgt := 367) hz dL_law_362 rfl ?_ ?_
  · refine r_iload hz dL_law_367 1 rfl ?_
    refine r_if_ne (tgt := 384) hz dL_law_369 rfl ?_ ?_
    · refine r_goto (tgt := 1559) hz dL_law_384 rfl ?_
      refine r_cs (k' := kk + 20) (n' := nn + 3000) (by show kk + 1 + 0 + 0 ≤ kk + 20; omega) (by show nn + 6 + 0 + 0 ≤ nn + 3000; omega) ?_
      refine r_sub [2, 3, 4, 5, 6] rfl ?_
      exact HR M5
    · refine r_aload_n hz dL_law_372 5 rfl ?_
      refine r_iconst (v := 0) hz dL_law_373 rfl ?_
      refine r_lald hz dL_law_374 ?_
      refine r_iload hz dL_law_375 0 rfl ?_
      refine r_i2l hz dL_law_377 ?_
      refine r_lcmp_eq (tgt := 384) hz dL_law_378 dL_law_379 rfl ?_ ?_
      · refine r_goto (tgt := 1559) hz dL_law_384 rfl ?_
        refine r_cs (k' := kk + 20) (n' := nn + 3000) (by show kk + 1 + 0 + 0 ≤ kk + 20; omega) (by show nn + 6 + 0 + 0 ≤ nn + 3000; omega) ?_
        refine r_sub [2, 3, 4, 5, 6] rfl ?_
        exact HR M5
      · refine r_iconst (v := 0) hz dL_law_382 rfl ?_
        exact r_none
  · refine r_iconst (v := 0) hz dL_law_365 rfl ?_
    exact r_none
def f_law_c4 (xs : Nat → Int32) (L x1 x2 x3 : Nat) (x4 : Int32) (r : Mm → Option (Int32 × Mm)) (M : Mm) : Option (Int32 × Mm) :=
  ck (inb (x4 + (1 : Int32)) L) (ck (gK M x1 = 7) (bd (f_X7_cash x1 (xs ((x4 + (1 : Int32))).toNatClampNeg) M) fun v2 M1 =>
  ck (inb (x4 + (1 : Int32)) L) (ck (gK M1 x2 = 8) (bd (f_X8_cash x2 (xs ((x4 + (1 : Int32))).toNatClampNeg) M1) fun v4 M3 =>
  (if v2 = v4 then
    r M3
  else
    none)))))
set_option maxRecDepth 20000 in
set_option maxHeartbeats 4000000 in
theorem s_law_c4 {z : Zt} {b L : Nat} {xs : Nat → Int32} {K : Int32 → Mm → Prop} {rr : Option FieldType} (hz : Good z RL code 7 room_1 rr) (hG : GoodL z b L xs) (kk nn : Nat) (hk : kk + 20 ≤ 601024) (hn : nn + 3000 ≤ 7293034) {x1 x2 x3 : Nat} {x4 : Int32} {r : Mm → Option (Int32 × Mm)} (HR : ∀ M, Sim z 1559 [(0, .ref b), (1, .ref x1), (2, .ref x2), (3, .ref x3), (4, .int x4)] [] M (kk + 20) (nn + 3000) (r M) K) : ∀ M, Sim z 387 [(0, .ref b), (1, .ref x1), (2, .ref x2), (3, .ref x3), (4, .int x4)] [] M kk nn (f_law_c4 xs L x1 x2 x3 x4 r M) K := by
  intro M
  unfold f_law_c4
  refine r_aload_n hz dL_law_387 1 rfl ?_
  refine r_aload_n hz dL_law_388 0 rfl ?_
  refine r_iload hz dL_law_389 4 rfl ?_
  refine r_iconst (v := 1) hz dL_law_391 rfl ?_
  refine r_iadd hz dL_law_392 ?_
  refine r_sld hz hG dL_law_393 ?_
  refine r_callVi (As := fun _ => [.int (xs ((x4 + (1 : Int32))).toNatClampNeg)]) cl7 hz (fun _ _ h => t_X7_cash _ _ _ _ _ h) cal_X7_cash dL_law_394 wm_3_137 wm_3_138 wm_3_139 rfl rfl (Nat.le_of_ble_eq_true rfl) ⟨(Nat.le_of_ble_eq_true rfl), (Nat.le_of_ble_eq_true rfl)⟩ ⟨by show kk + 0 ≤ 601024; omega, by show nn + 0 ≤ 7293034; omega⟩ (fun v2 M1 => ?_)
  refine r_aload_n hz dL_law_397 2 rfl ?_
  refine r_aload_n hz dL_law_398 0 rfl ?_
  refine r_iload hz dL_law_399 4 rfl ?_
  refine r_iconst (v := 1) hz dL_law_401 rfl ?_
  refine r_iadd hz dL_law_402 ?_
  refine r_sld hz hG dL_law_403 ?_
  refine r_callVi (As := fun _ => [.int (xs ((x4 + (1 : Int32))).toNatClampNeg)]) cl8 hz (fun _ _ h => t_X8_cash _ _ _ _ _ h) cal_X8_cash dL_law_404 wm_6_84 wm_6_85 wm_6_86 rfl rfl (Nat.le_of_ble_eq_true rfl) ⟨(Nat.le_of_ble_eq_true rfl), (Nat.le_of_ble_eq_true rfl)⟩ ⟨by show kk + 0 + 0 ≤ 601024; omega, by show nn + 0 + 0 ≤ 7293034; omega⟩ (fun v4 M3 => ?_)
  refine r_icmp_eq (tgt := 1559) hz dL_law_407 rfl ?_ ?_
  · refine r_cs (k' := kk + 20) (n' := nn + 3000) (by show kk + 0 + 0 ≤ kk + 20; omega) (by show nn + 0 + 0 ≤ nn + 3000; omega) ?_
    exact HR M3
  · refine r_iconst (v := 0) hz dL_law_410 rfl ?_
    exact r_none
def f_law_c5 (xs : Nat → Int32) (L x1 x2 x3 : Nat) (x4 : Int32) (r : Mm → Option (Int32 × Mm)) (M : Mm) : Option (Int32 × Mm) :=
  ck (inb (x4 + (1 : Int32)) L) (ck (inb (x4 + (2 : Int32)) L) (ck (inb (x4 + (3 : Int32)) L) (ck (gK M x1 = 7) (bd (f_X7_held x1 (xs ((x4 + (1 : Int32))).toNatClampNeg) (xs ((x4 + (2 : Int32))).toNatClampNeg) (xs ((x4 + (3 : Int32))).toNatClampNeg) M) fun v2 M1 =>
  ck (inb (x4 + (1 : Int32)) L) (ck (inb (x4 + (2 : Int32)) L) (ck (inb (x4 + (3 : Int32)) L) (ck (gK M1 x2 = 8) (bd (f_X8_held x2 (xs ((x4 + (1 : Int32))).toNatClampNeg) (xs ((x4 + (2 : Int32))).toNatClampNeg) (xs ((x4 + (3 : Int32))).toNatClampNeg) M1) fun v4 M3 =>
  (if v2 = v4 then
    r M3
  else
    none)))))))))
set_option maxRecDepth 20000 in
set_option maxHeartbeats 4000000 in
theorem s_law_c5 {z : Zt} {b L : Nat} {xs : Nat → Int32} {K : Int32 → Mm → Prop} {rr : Option FieldType} (hz : Good z RL code 7 room_1 rr) (hG : GoodL z b L xs) (kk nn : Nat) (hk : kk + 20 ≤ 601024) (hn : nn + 3000 ≤ 7293034) {x1 x2 x3 : Nat} {x4 : Int32} {r : Mm → Option (Int32 × Mm)} (HR : ∀ M, Sim z 1559 [(0, .ref b), (1, .ref x1), (2, .ref x2), (3, .ref x3), (4, .int x4)] [] M (kk + 20) (nn + 3000) (r M) K) : ∀ M, Sim z 412 [(0, .ref b), (1, .ref x1), (2, .ref x2), (3, .ref x3), (4, .int x4)] [] M kk nn (f_law_c5 xs L x1 x2 x3 x4 r M) K := by
  intro M
  unfold f_law_c5
  refine r_aload_n hz dL_law_412 1 rfl ?_
  refine r_aload_n hz dL_law_413 0 rfl ?_
  refine r_iload hz dL_law_414 4 rfl ?_
  refine r_iconst (v := 1) hz dL_law_416 rfl ?_
  refine r_iadd hz dL_law_417 ?_
  refine r_sld hz hG dL_law_418 ?_
  refine r_aload_n hz dL_law_419 0 rfl ?_
  refine r_iload hz dL_law_420 4 rfl ?_
  refine r_iconst (v := 2) hz dL_law_422 rfl ?_
  refine r_iadd hz dL_law_423 ?_
  refine r_sld hz hG dL_law_424 ?_
  refine r_aload_n hz dL_law_425 0 rfl ?_
  refine r_iload hz dL_law_426 4 rfl ?_
  refine r_iconst (v := 3) hz dL_law_428 rfl ?_
  refine r_iadd hz dL_law_429 ?_
  refine r_sld hz hG dL_law_430 ?_
  refine r_callVi (As := fun _ => [.int (xs ((x4 + (1 : Int32))).toNatClampNeg), .int (xs ((x4 + (2 : Int32))).toNatClampNeg), .int (xs ((x4 + (3 : Int32))).toNatClampNeg)]) cl7 hz (fun _ _ h => t_X7_held _ _ _ _ _ _ _ h) cal_X7_held dL_law_431 wm_3_145 wm_3_146 wm_3_147 rfl rfl (Nat.le_of_ble_eq_true rfl) ⟨(Nat.le_of_ble_eq_true rfl), (Nat.le_of_ble_eq_true rfl)⟩ ⟨by show kk + 0 ≤ 601024; omega, by show nn + 0 ≤ 7293034; omega⟩ (fun v2 M1 => ?_)
  refine r_aload_n hz dL_law_434 2 rfl ?_
  refine r_aload_n hz dL_law_435 0 rfl ?_
  refine r_iload hz dL_law_436 4 rfl ?_
  refine r_iconst (v := 1) hz dL_law_438 rfl ?_
  refine r_iadd hz dL_law_439 ?_
  refine r_sld hz hG dL_law_440 ?_
  refine r_aload_n hz dL_law_441 0 rfl ?_
  refine r_iload hz dL_law_442 4 rfl ?_
  refine r_iconst (v := 2) hz dL_law_444 rfl ?_
  refine r_iadd hz dL_law_445 ?_
  refine r_sld hz hG dL_law_446 ?_
  refine r_aload_n hz dL_law_447 0 rfl ?_
  refine r_iload hz dL_law_448 4 rfl ?_
  refine r_iconst (v := 3) hz dL_law_450 rfl ?_
  refine r_iadd hz dL_law_451 ?_
  refine r_sld hz hG dL_law_452 ?_
  refine r_callVi (As := fun _ => [.int (xs ((x4 + (1 : Int32))).toNatClampNeg), .int (xs ((x4 + (2 : Int32))).toNatClampNeg), .int (xs ((x4 + (3 : Int32))).toNatClampNeg)]) cl8 hz (fun _ _ h => t_X8_held _ _ _ _ _ _ _ h) cal_X8_held dL_law_453 wm_6_92 wm_6_93 wm_6_94 rfl rfl (Nat.le_of_ble_eq_true rfl) ⟨(Nat.le_of_ble_eq_true rfl), (Nat.le_of_ble_eq_true rfl)⟩ ⟨by show kk + 0 + 0 ≤ 601024; omega, by show nn + 0 + 0 ≤ 7293034; omega⟩ (fun v4 M3 => ?_)
  refine r_icmp_eq (tgt := 1559) hz dL_law_456 rfl ?_ ?_
  · refine r_cs (k' := kk + 20) (n' := nn + 3000) (by show kk + 0 + 0 ≤ kk + 20; omega) (by show nn + 0 + 0 ≤ nn + 3000; omega) ?_
    exact HR M3
  · refine r_iconst (v := 0) hz dL_law_459 rfl ?_
    exact r_none
def f_law_c6 (xs : Nat → Int32) (L x1 x2 x3 : Nat) (x4 : Int32) (r : Mm → Option (Int32 × Mm)) (M : Mm) : Option (Int32 × Mm) :=
  ck (inb (x4 + (1 : Int32)) L) (ck (inb (x4 + (2 : Int32)) L) (ck (inb (x4 + (3 : Int32)) L) (ck (gK M x1 = 7) (bd (f_X7_bond x1 (xs ((x4 + (1 : Int32))).toNatClampNeg) (xs ((x4 + (2 : Int32))).toNatClampNeg) (xs ((x4 + (3 : Int32))).toNatClampNeg) M) fun v2 M1 =>
  ck (inb (x4 + (1 : Int32)) L) (ck (inb (x4 + (2 : Int32)) L) (ck (inb (x4 + (3 : Int32)) L) (ck (gK M1 x2 = 8) (bd (f_X8_bond x2 (xs ((x4 + (1 : Int32))).toNatClampNeg) (xs ((x4 + (2 : Int32))).toNatClampNeg) (xs ((x4 + (3 : Int32))).toNatClampNeg) M1) fun v4 M3 =>
  (if v2 = v4 then
    r M3
  else
    none)))))))))
set_option maxRecDepth 20000 in
set_option maxHeartbeats 4000000 in
theorem s_law_c6 {z : Zt} {b L : Nat} {xs : Nat → Int32} {K : Int32 → Mm → Prop} {rr : Option FieldType} (hz : Good z RL code 7 room_1 rr) (hG : GoodL z b L xs) (kk nn : Nat) (hk : kk + 20 ≤ 601024) (hn : nn + 3000 ≤ 7293034) {x1 x2 x3 : Nat} {x4 : Int32} {r : Mm → Option (Int32 × Mm)} (HR : ∀ M, Sim z 1559 [(0, .ref b), (1, .ref x1), (2, .ref x2), (3, .ref x3), (4, .int x4)] [] M (kk + 20) (nn + 3000) (r M) K) : ∀ M, Sim z 461 [(0, .ref b), (1, .ref x1), (2, .ref x2), (3, .ref x3), (4, .int x4)] [] M kk nn (f_law_c6 xs L x1 x2 x3 x4 r M) K := by
  intro M
  unfold f_law_c6
  refine r_aload_n hz dL_law_461 1 rfl ?_
  refine r_aload_n hz dL_law_462 0 rfl ?_
  refine r_iload hz dL_law_463 4 rfl ?_
  refine r_iconst (v := 1) hz dL_law_465 rfl ?_
  refine r_iadd hz dL_law_466 ?_
  refine r_sld hz hG dL_law_467 ?_
  refine r_aload_n hz dL_law_468 0 rfl ?_
  refine r_iload hz dL_law_469 4 rfl ?_
  refine r_iconst (v := 2) hz dL_law_471 rfl ?_
  refine r_iadd hz dL_law_472 ?_
  refine r_sld hz hG dL_law_473 ?_
  refine r_aload_n hz dL_law_474 0 rfl ?_
  refine r_iload hz dL_law_475 4 rfl ?_
  refine r_iconst (v := 3) hz dL_law_477 rfl ?_
  refine r_iadd hz dL_law_478 ?_
  refine r_sld hz hG dL_law_479 ?_
  refine r_callVi (As := fun _ => [.int (xs ((x4 + (1 : Int32))).toNatClampNeg), .int (xs ((x4 + (2 : Int32))).toNatClampNeg), .int (xs ((x4 + (3 : Int32))).toNatClampNeg)]) cl7 hz (fun _ _ h => t_X7_bond _ _ _ _ _ _ _ h) cal_X7_bond dL_law_480 wm_3_157 wm_3_158 wm_3_159 rfl rfl (Nat.le_of_ble_eq_true rfl) ⟨(Nat.le_of_ble_eq_true rfl), (Nat.le_of_ble_eq_true rfl)⟩ ⟨by show kk + 0 ≤ 601024; omega, by show nn + 0 ≤ 7293034; omega⟩ (fun v2 M1 => ?_)
  refine r_aload_n hz dL_law_483 2 rfl ?_
  refine r_aload_n hz dL_law_484 0 rfl ?_
  refine r_iload hz dL_law_485 4 rfl ?_
  refine r_iconst (v := 1) hz dL_law_487 rfl ?_
  refine r_iadd hz dL_law_488 ?_
  refine r_sld hz hG dL_law_489 ?_
  refine r_aload_n hz dL_law_490 0 rfl ?_
  refine r_iload hz dL_law_491 4 rfl ?_
  refine r_iconst (v := 2) hz dL_law_493 rfl ?_
  refine r_iadd hz dL_law_494 ?_
  refine r_sld hz hG dL_law_495 ?_
  refine r_aload_n hz dL_law_496 0 rfl ?_
  refine r_iload hz dL_law_497 4 rfl ?_
  refine r_iconst (v := 3) hz dL_law_499 rfl ?_
  refine r_iadd hz dL_law_500 ?_
  refine r_sld hz hG dL_law_501 ?_
  refine r_callVi (As := fun _ => [.int (xs ((x4 + (1 : Int32))).toNatClampNeg), .int (xs ((x4 + (2 : Int32))).toNatClampNeg), .int (xs ((x4 + (3 : Int32))).toNatClampNeg)]) cl8 hz (fun _ _ h => t_X8_bond _ _ _ _ _ _ _ h) cal_X8_bond dL_law_502 wm_6_97 wm_6_98 wm_6_99 rfl rfl (Nat.le_of_ble_eq_true rfl) ⟨(Nat.le_of_ble_eq_true rfl), (Nat.le_of_ble_eq_true rfl)⟩ ⟨by show kk + 0 + 0 ≤ 601024; omega, by show nn + 0 + 0 ≤ 7293034; omega⟩ (fun v4 M3 => ?_)
  refine r_icmp_eq (tgt := 1559) hz dL_law_505 rfl ?_ ?_
  · refine r_cs (k' := kk + 20) (n' := nn + 3000) (by show kk + 0 + 0 ≤ kk + 20; omega) (by show nn + 0 + 0 ≤ nn + 3000; omega) ?_
    exact HR M3
  · refine r_iconst (v := 0) hz dL_law_508 rfl ?_
    exact r_none
def f_law_c7 (xs : Nat → Int32) (L x1 x2 x3 : Nat) (x4 : Int32) (r : Mm → Option (Int32 × Mm)) (M : Mm) : Option (Int32 × Mm) :=
  ck (inb (x4 + (1 : Int32)) L) (ck (inb (x4 + (2 : Int32)) L) (ck (inb (x4 + (3 : Int32)) L) (ck (gK M x1 = 7) (bd (f_X7_standing x1 (xs ((x4 + (1 : Int32))).toNatClampNeg) (xs ((x4 + (2 : Int32))).toNatClampNeg) (xs ((x4 + (3 : Int32))).toNatClampNeg) M) fun v2 M1 =>
  ck (inb (x4 + (1 : Int32)) L) (ck (inb (x4 + (2 : Int32)) L) (ck (inb (x4 + (3 : Int32)) L) (ck (gK M1 x2 = 8) (bd (f_X8_standing x2 (xs ((x4 + (1 : Int32))).toNatClampNeg) (xs ((x4 + (2 : Int32))).toNatClampNeg) (xs ((x4 + (3 : Int32))).toNatClampNeg) M1) fun v4 M3 =>
  (if v2 = v4 then
    r M3
  else
    none)))))))))
set_option maxRecDepth 20000 in
set_option maxHeartbeats 4000000 in
theorem s_law_c7 {z : Zt} {b L : Nat} {xs : Nat → Int32} {K : Int32 → Mm → Prop} {rr : Option FieldType} (hz : Good z RL code 7 room_1 rr) (hG : GoodL z b L xs) (kk nn : Nat) (hk : kk + 20 ≤ 601024) (hn : nn + 3000 ≤ 7293034) {x1 x2 x3 : Nat} {x4 : Int32} {r : Mm → Option (Int32 × Mm)} (HR : ∀ M, Sim z 1559 [(0, .ref b), (1, .ref x1), (2, .ref x2), (3, .ref x3), (4, .int x4)] [] M (kk + 20) (nn + 3000) (r M) K) : ∀ M, Sim z 510 [(0, .ref b), (1, .ref x1), (2, .ref x2), (3, .ref x3), (4, .int x4)] [] M kk nn (f_law_c7 xs L x1 x2 x3 x4 r M) K := by
  intro M
  unfold f_law_c7
  refine r_aload_n hz dL_law_510 1 rfl ?_
  refine r_aload_n hz dL_law_511 0 rfl ?_
  refine r_iload hz dL_law_512 4 rfl ?_
  refine r_iconst (v := 1) hz dL_law_514 rfl ?_
  refine r_iadd hz dL_law_515 ?_
  refine r_sld hz hG dL_law_516 ?_
  refine r_aload_n hz dL_law_517 0 rfl ?_
  refine r_iload hz dL_law_518 4 rfl ?_
  refine r_iconst (v := 2) hz dL_law_520 rfl ?_
  refine r_iadd hz dL_law_521 ?_
  refine r_sld hz hG dL_law_522 ?_
  refine r_aload_n hz dL_law_523 0 rfl ?_
  refine r_iload hz dL_law_524 4 rfl ?_
  refine r_iconst (v := 3) hz dL_law_526 rfl ?_
  refine r_iadd hz dL_law_527 ?_
  refine r_sld hz hG dL_law_528 ?_
  refine r_callVi (As := fun _ => [.int (xs ((x4 + (1 : Int32))).toNatClampNeg), .int (xs ((x4 + (2 : Int32))).toNatClampNeg), .int (xs ((x4 + (3 : Int32))).toNatClampNeg)]) cl7 hz (fun _ _ h => t_X7_standing _ _ _ _ _ _ _ h) cal_X7_standing dL_law_529 wm_3_184 wm_3_185 wm_3_186 rfl rfl (Nat.le_of_ble_eq_true rfl) ⟨(Nat.le_of_ble_eq_true rfl), (Nat.le_of_ble_eq_true rfl)⟩ ⟨by show kk + 0 ≤ 601024; omega, by show nn + 0 ≤ 7293034; omega⟩ (fun v2 M1 => ?_)
  refine r_aload_n hz dL_law_532 2 rfl ?_
  refine r_aload_n hz dL_law_533 0 rfl ?_
  refine r_iload hz dL_law_534 4 rfl ?_
  refine r_iconst (v := 1) hz dL_law_536 rfl ?_
  refine r_iadd hz dL_law_537 ?_
  refine r_sld hz hG dL_law_538 ?_
  refine r_aload_n hz dL_law_539 0 rfl ?_
  refine r_iload hz dL_law_540 4 rfl ?_
  refine r_iconst (v := 2) hz dL_law_542 rfl ?_
  refine r_iadd hz dL_law_543 ?_
  refine r_sld hz hG dL_law_544 ?_
  refine r_aload_n hz dL_law_545 0 rfl ?_
  refine r_iload hz dL_law_546 4 rfl ?_
  refine r_iconst (v := 3) hz dL_law_548 rfl ?_
  refine r_iadd hz dL_law_549 ?_
  refine r_sld hz hG dL_law_550 ?_
  refine r_callVi (As := fun _ => [.int (xs ((x4 + (1 : Int32))).toNatClampNeg), .int (xs ((x4 + (2 : Int32))).toNatClampNeg), .int (xs ((x4 + (3 : Int32))).toNatClampNeg)]) cl8 hz (fun _ _ h => t_X8_standing _ _ _ _ _ _ _ h) cal_X8_standing dL_law_551 wm_6_105 wm_6_106 wm_6_107 rfl rfl (Nat.le_of_ble_eq_true rfl) ⟨(Nat.le_of_ble_eq_true rfl), (Nat.le_of_ble_eq_true rfl)⟩ ⟨by show kk + 0 + 0 ≤ 601024; omega, by show nn + 0 + 0 ≤ 7293034; omega⟩ (fun v4 M3 => ?_)
  refine r_icmp_eq (tgt := 1559) hz dL_law_554 rfl ?_ ?_
  · refine r_cs (k' := kk + 20) (n' := nn + 3000) (by show kk + 0 + 0 ≤ kk + 20; omega) (by show nn + 0 + 0 ≤ nn + 3000; omega) ?_
    exact HR M3
  · refine r_iconst (v := 0) hz dL_law_557 rfl ?_
    exact r_none
def f_law_c8 (xs : Nat → Int32) (L x1 x2 x3 : Nat) (x4 : Int32) (r : Mm → Option (Int32 × Mm)) (M : Mm) : Option (Int32 × Mm) :=
  ck (inb (x4 + (1 : Int32)) L) (ck (inb (x4 + (2 : Int32)) L) (ck (gK M x1 = 7) (bd (f_X7_price x1 (xs ((x4 + (1 : Int32))).toNatClampNeg) (xs ((x4 + (2 : Int32))).toNatClampNeg) M) fun v2 M1 =>
  ck (inb (x4 + (1 : Int32)) L) (ck (inb (x4 + (2 : Int32)) L) (ck (gK M1 x2 = 8) (bd (f_X8_price x2 (xs ((x4 + (1 : Int32))).toNatClampNeg) (xs ((x4 + (2 : Int32))).toNatClampNeg) M1) fun v4 M3 =>
  (if v2 = v4 then
    r M3
  else
    none)))))))
set_option maxRecDepth 20000 in
set_option maxHeartbeats 4000000 in
theorem s_law_c8 {z : Zt} {b L : Nat} {xs : Nat → Int32} {K : Int32 → Mm → Prop} {rr : Option FieldType} (hz : Good z RL code 7 room_1 rr) (hG : GoodL z b L xs) (kk nn : Nat) (hk : kk + 20 ≤ 601024) (hn : nn + 3000 ≤ 7293034) {x1 x2 x3 : Nat} {x4 : Int32} {r : Mm → Option (Int32 × Mm)} (HR : ∀ M, Sim z 1559 [(0, .ref b), (1, .ref x1), (2, .ref x2), (3, .ref x3), (4, .int x4)] [] M (kk + 20) (nn + 3000) (r M) K) : ∀ M, Sim z 559 [(0, .ref b), (1, .ref x1), (2, .ref x2), (3, .ref x3), (4, .int x4)] [] M kk nn (f_law_c8 xs L x1 x2 x3 x4 r M) K := by
  intro M
  unfold f_law_c8
  refine r_aload_n hz dL_law_559 1 rfl ?_
  refine r_aload_n hz dL_law_560 0 rfl ?_
  refine r_iload hz dL_law_561 4 rfl ?_
  refine r_iconst (v := 1) hz dL_law_563 rfl ?_
  refine r_iadd hz dL_law_564 ?_
  refine r_sld hz hG dL_law_565 ?_
  refine r_aload_n hz dL_law_566 0 rfl ?_
  refine r_iload hz dL_law_567 4 rfl ?_
  refine r_iconst (v := 2) hz dL_law_569 rfl ?_
  refine r_iadd hz dL_law_570 ?_
  refine r_sld hz hG dL_law_571 ?_
  refine r_callVi (As := fun _ => [.int (xs ((x4 + (1 : Int32))).toNatClampNeg), .int (xs ((x4 + (2 : Int32))).toNatClampNeg)]) cl7 hz (fun _ _ h => t_X7_price _ _ _ _ _ _ h) cal_X7_price dL_law_572 wm_3_188 wm_3_189 wm_3_190 rfl rfl (Nat.le_of_ble_eq_true rfl) ⟨(Nat.le_of_ble_eq_true rfl), (Nat.le_of_ble_eq_true rfl)⟩ ⟨by show kk + 0 ≤ 601024; omega, by show nn + 0 ≤ 7293034; omega⟩ (fun v2 M1 => ?_)
  refine r_aload_n hz dL_law_575 2 rfl ?_
  refine r_aload_n hz dL_law_576 0 rfl ?_
  refine r_iload hz dL_law_577 4 rfl ?_
  refine r_iconst (v := 1) hz dL_law_579 rfl ?_
  refine r_iadd hz dL_law_580 ?_
  refine r_sld hz hG dL_law_581 ?_
  refine r_aload_n hz dL_law_582 0 rfl ?_
  refine r_iload hz dL_law_583 4 rfl ?_
  refine r_iconst (v := 2) hz dL_law_585 rfl ?_
  refine r_iadd hz dL_law_586 ?_
  refine r_sld hz hG dL_law_587 ?_
  refine r_callVi (As := fun _ => [.int (xs ((x4 + (1 : Int32))).toNatClampNeg), .int (xs ((x4 + (2 : Int32))).toNatClampNeg)]) cl8 hz (fun _ _ h => t_X8_price _ _ _ _ _ _ h) cal_X8_price dL_law_588 wm_6_109 wm_6_110 wm_6_111 rfl rfl (Nat.le_of_ble_eq_true rfl) ⟨(Nat.le_of_ble_eq_true rfl), (Nat.le_of_ble_eq_true rfl)⟩ ⟨by show kk + 0 + 0 ≤ 601024; omega, by show nn + 0 + 0 ≤ 7293034; omega⟩ (fun v4 M3 => ?_)
  refine r_icmp_eq (tgt := 1559) hz dL_law_591 rfl ?_ ?_
  · refine r_cs (k' := kk + 20) (n' := nn + 3000) (by show kk + 0 + 0 ≤ kk + 20; omega) (by show nn + 0 + 0 ≤ nn + 3000; omega) ?_
    exact HR M3
  · refine r_iconst (v := 0) hz dL_law_594 rfl ?_
    exact r_none
def f_law_c9 (xs : Nat → Int32) (L x1 x2 x3 : Nat) (x4 : Int32) (r : Mm → Option (Int32 × Mm)) (M : Mm) : Option (Int32 × Mm) :=
  ck (gK M x1 = 7) (bd (f_X7_year x1 M) fun v2 M1 =>
  ck (gK M1 x2 = 8) (bd (f_X8_year x2 M1) fun v4 M3 =>
  (if v2 = v4 then
    r M3
  else
    none)))
set_option maxRecDepth 20000 in
set_option maxHeartbeats 4000000 in
theorem s_law_c9 {z : Zt} {b L : Nat} {xs : Nat → Int32} {K : Int32 → Mm → Prop} {rr : Option FieldType} (hz : Good z RL code 7 room_1 rr) (hG : GoodL z b L xs) (kk nn : Nat) (hk : kk + 20 ≤ 601024) (hn : nn + 3000 ≤ 7293034) {x1 x2 x3 : Nat} {x4 : Int32} {r : Mm → Option (Int32 × Mm)} (HR : ∀ M, Sim z 1559 [(0, .ref b), (1, .ref x1), (2, .ref x2), (3, .ref x3), (4, .int x4)] [] M (kk + 20) (nn + 3000) (r M) K) : ∀ M, Sim z 596 [(0, .ref b), (1, .ref x1), (2, .ref x2), (3, .ref x3), (4, .int x4)] [] M kk nn (f_law_c9 xs L x1 x2 x3 x4 r M) K := by
  intro M
  unfold f_law_c9
  refine r_aload_n hz dL_law_596 1 rfl ?_
  refine r_callVi (As := fun _ => []) cl7 hz (fun _ _ h => t_X7_year _ _ _ _ h) cal_X7_year dL_law_597 wm_3_192 wm_3_193 wm_3_194 rfl rfl (Nat.le_of_ble_eq_true rfl) ⟨(Nat.le_of_ble_eq_true rfl), (Nat.le_of_ble_eq_true rfl)⟩ ⟨by show kk + 10 ≤ 601024; omega, by show nn + 1152 ≤ 7293034; omega⟩ (fun v2 M1 => ?_)
  refine r_aload_n hz dL_law_600 2 rfl ?_
  refine r_callVi (As := fun _ => []) cl8 hz (fun _ _ h => t_X8_year _ _ _ _ h) cal_X8_year dL_law_601 wm_6_121 wm_6_122 wm_6_123 rfl rfl (Nat.le_of_ble_eq_true rfl) ⟨(Nat.le_of_ble_eq_true rfl), (Nat.le_of_ble_eq_true rfl)⟩ ⟨by show kk + 10 + 0 ≤ 601024; omega, by show nn + 1152 + 0 ≤ 7293034; omega⟩ (fun v4 M3 => ?_)
  refine r_icmp_eq (tgt := 1559) hz dL_law_604 rfl ?_ ?_
  · refine r_cs (k' := kk + 20) (n' := nn + 3000) (by show kk + 10 + 0 ≤ kk + 20; omega) (by show nn + 1152 + 0 ≤ nn + 3000; omega) ?_
    exact HR M3
  · refine r_iconst (v := 0) hz dL_law_607 rfl ?_
    exact r_none
def f_law_c10 (xs : Nat → Int32) (L x1 x2 x3 : Nat) (x4 : Int32) (r : Mm → Option (Int32 × Mm)) (M : Mm) : Option (Int32 × Mm) :=
  ck (inb (x4 + (1 : Int32)) L) (ck (inb (x4 + (2 : Int32)) L) (ck (gK M x1 = 7) (bd (f_X7_claim x1 (xs ((x4 + (1 : Int32))).toNatClampNeg) (xs ((x4 + (2 : Int32))).toNatClampNeg) M) fun v2 M1 =>
  ck (inb (x4 + (1 : Int32)) L) (ck (inb (x4 + (2 : Int32)) L) (ck (gK M1 x2 = 8) (bd (f_X8_claim x2 (xs ((x4 + (1 : Int32))).toNatClampNeg) (xs ((x4 + (2 : Int32))).toNatClampNeg) M1) fun v4 M3 =>
  (if v2 = v4 then
    r M3
  else
    none)))))))
set_option maxRecDepth 20000 in
set_option maxHeartbeats 4000000 in
theorem s_law_c10 {z : Zt} {b L : Nat} {xs : Nat → Int32} {K : Int32 → Mm → Prop} {rr : Option FieldType} (hz : Good z RL code 7 room_1 rr) (hG : GoodL z b L xs) (kk nn : Nat) (hk : kk + 20 ≤ 601024) (hn : nn + 3000 ≤ 7293034) {x1 x2 x3 : Nat} {x4 : Int32} {r : Mm → Option (Int32 × Mm)} (HR : ∀ M, Sim z 1559 [(0, .ref b), (1, .ref x1), (2, .ref x2), (3, .ref x3), (4, .int x4)] [] M (kk + 20) (nn + 3000) (r M) K) : ∀ M, Sim z 609 [(0, .ref b), (1, .ref x1), (2, .ref x2), (3, .ref x3), (4, .int x4)] [] M kk nn (f_law_c10 xs L x1 x2 x3 x4 r M) K := by
  intro M
  unfold f_law_c10
  refine r_aload_n hz dL_law_609 1 rfl ?_
  refine r_aload_n hz dL_law_610 0 rfl ?_
  refine r_iload hz dL_law_611 4 rfl ?_
  refine r_iconst (v := 1) hz dL_law_613 rfl ?_
  refine r_iadd hz dL_law_614 ?_
  refine r_sld hz hG dL_law_615 ?_
  refine r_aload_n hz dL_law_616 0 rfl ?_
  refine r_iload hz dL_law_617 4 rfl ?_
  refine r_iconst (v := 2) hz dL_law_619 rfl ?_
  refine r_iadd hz dL_law_620 ?_
  refine r_sld hz hG dL_law_621 ?_
  refine r_callVi (As := fun _ => [.int (xs ((x4 + (1 : Int32))).toNatClampNeg), .int (xs ((x4 + (2 : Int32))).toNatClampNeg)]) cl7 hz (fun _ _ h => t_X7_claim _ _ _ _ _ _ h) cal_X7_claim dL_law_622 wm_4_28 wm_4_29 wm_4_30 rfl rfl (Nat.le_of_ble_eq_true rfl) ⟨(Nat.le_of_ble_eq_true rfl), (Nat.le_of_ble_eq_true rfl)⟩ ⟨by show kk + 10 ≤ 601024; omega, by show nn + 1152 ≤ 7293034; omega⟩ (fun v2 M1 => ?_)
  refine r_aload_n hz dL_law_625 2 rfl ?_
  refine r_aload_n hz dL_law_626 0 rfl ?_
  refine r_iload hz dL_law_627 4 rfl ?_
  refine r_iconst (v := 1) hz dL_law_629 rfl ?_
  refine r_iadd hz dL_law_630 ?_
  refine r_sld hz hG dL_law_631 ?_
  refine r_aload_n hz dL_law_632 0 rfl ?_
  refine r_iload hz dL_law_633 4 rfl ?_
  refine r_iconst (v := 2) hz dL_law_635 rfl ?_
  refine r_iadd hz dL_law_636 ?_
  refine r_sld hz hG dL_law_637 ?_
  refine r_callVi (As := fun _ => [.int (xs ((x4 + (1 : Int32))).toNatClampNeg), .int (xs ((x4 + (2 : Int32))).toNatClampNeg)]) cl8 hz (fun _ _ h => t_X8_claim _ _ _ _ _ _ h) cal_X8_claim dL_law_638 wm_6_168 wm_6_169 wm_6_170 rfl rfl (Nat.le_of_ble_eq_true rfl) ⟨(Nat.le_of_ble_eq_true rfl), (Nat.le_of_ble_eq_true rfl)⟩ ⟨by show kk + 10 + 0 ≤ 601024; omega, by show nn + 1152 + 0 ≤ 7293034; omega⟩ (fun v4 M3 => ?_)
  refine r_icmp_eq (tgt := 1559) hz dL_law_641 rfl ?_ ?_
  · refine r_cs (k' := kk + 20) (n' := nn + 3000) (by show kk + 10 + 0 ≤ kk + 20; omega) (by show nn + 1152 + 0 ≤ nn + 3000; omega) ?_
    exact HR M3
  · refine r_iconst (v := 0) hz dL_law_644 rfl ?_
    exact r_none
def f_law_c11 (xs : Nat → Int32) (L x1 x2 x3 : Nat) (x4 : Int32) (r : Mm → Option (Int32 × Mm)) (M : Mm) : Option (Int32 × Mm) :=
  ck (inb (x4 + (1 : Int32)) L) (ck (inb (x4 + (2 : Int32)) L) (ck (inb (x4 + (3 : Int32)) L) (ck (inb (x4 + (4 : Int32)) L) (ck (gK M x1 = 7) (bd (f_X7_sell x1 (xs ((x4 + (1 : Int32))).toNatClampNeg) (xs ((x4 + (2 : Int32))).toNatClampNeg) (xs ((x4 + (3 : Int32))).toNatClampNeg) (xs ((x4 + (4 : Int32))).toNatClampNeg) M) fun v2 M1 =>
  ck (inb (x4 + (1 : Int32)) L) (ck (inb (x4 + (2 : Int32)) L) (ck (inb (x4 + (3 : Int32)) L) (ck (inb (x4 + (4 : Int32)) L) (ck (gK M1 x2 = 8) (bd (f_X8_sell x2 (xs ((x4 + (1 : Int32))).toNatClampNeg) (xs ((x4 + (2 : Int32))).toNatClampNeg) (xs ((x4 + (3 : Int32))).toNatClampNeg) (xs ((x4 + (4 : Int32))).toNatClampNeg) M1) fun v4 M3 =>
  (if v2 = v4 then
    r M3
  else
    none)))))))))))
set_option maxRecDepth 20000 in
set_option maxHeartbeats 4000000 in
theorem s_law_c11 {z : Zt} {b L : Nat} {xs : Nat → Int32} {K : Int32 → Mm → Prop} {rr : Option FieldType} (hz : Good z RL code 7 room_1 rr) (hG : GoodL z b L xs) (kk nn : Nat) (hk : kk + 20 ≤ 601024) (hn : nn + 3000 ≤ 7293034) {x1 x2 x3 : Nat} {x4 : Int32} {r : Mm → Option (Int32 × Mm)} (HR : ∀ M, Sim z 1559 [(0, .ref b), (1, .ref x1), (2, .ref x2), (3, .ref x3), (4, .int x4)] [] M (kk + 20) (nn + 3000) (r M) K) : ∀ M, Sim z 646 [(0, .ref b), (1, .ref x1), (2, .ref x2), (3, .ref x3), (4, .int x4)] [] M kk nn (f_law_c11 xs L x1 x2 x3 x4 r M) K := by
  intro M
  unfold f_law_c11
  refine r_aload_n hz dL_law_646 1 rfl ?_
  refine r_aload_n hz dL_law_647 0 rfl ?_
  refine r_iload hz dL_law_648 4 rfl ?_
  refine r_iconst (v := 1) hz dL_law_650 rfl ?_
  refine r_iadd hz dL_law_651 ?_
  refine r_sld hz hG dL_law_652 ?_
  refine r_aload_n hz dL_law_653 0 rfl ?_
  refine r_iload hz dL_law_654 4 rfl ?_
  refine r_iconst (v := 2) hz dL_law_656 rfl ?_
  refine r_iadd hz dL_law_657 ?_
  refine r_sld hz hG dL_law_658 ?_
  refine r_aload_n hz dL_law_659 0 rfl ?_
  refine r_iload hz dL_law_660 4 rfl ?_
  refine r_iconst (v := 3) hz dL_law_662 rfl ?_
  refine r_iadd hz dL_law_663 ?_
  refine r_sld hz hG dL_law_664 ?_
  refine r_aload_n hz dL_law_665 0 rfl ?_
  refine r_iload hz dL_law_666 4 rfl ?_
  refine r_iconst (v := 4) hz dL_law_668 rfl ?_
  refine r_iadd hz dL_law_669 ?_
  refine r_sld hz hG dL_law_670 ?_
  refine r_callVi (As := fun _ => [.int (xs ((x4 + (1 : Int32))).toNatClampNeg), .int (xs ((x4 + (2 : Int32))).toNatClampNeg), .int (xs ((x4 + (3 : Int32))).toNatClampNeg), .int (xs ((x4 + (4 : Int32))).toNatClampNeg)]) cl7 hz (fun _ _ h => t_X7_sell _ _ _ _ _ _ _ _ h) cal_X7_sell dL_law_671 wm_4_32 wm_4_33 wm_4_34 rfl rfl (Nat.le_of_ble_eq_true rfl) ⟨(Nat.le_of_ble_eq_true rfl), (Nat.le_of_ble_eq_true rfl)⟩ ⟨by show kk + 10 ≤ 601024; omega, by show nn + 1152 ≤ 7293034; omega⟩ (fun v2 M1 => ?_)
  refine r_aload_n hz dL_law_674 2 rfl ?_
  refine r_aload_n hz dL_law_675 0 rfl ?_
  refine r_iload hz dL_law_676 4 rfl ?_
  refine r_iconst (v := 1) hz dL_law_678 rfl ?_
  refine r_iadd hz dL_law_679 ?_
  refine r_sld hz hG dL_law_680 ?_
  refine r_aload_n hz dL_law_681 0 rfl ?_
  refine r_iload hz dL_law_682 4 rfl ?_
  refine r_iconst (v := 2) hz dL_law_684 rfl ?_
  refine r_iadd hz dL_law_685 ?_
  refine r_sld hz hG dL_law_686 ?_
  refine r_aload_n hz dL_law_687 0 rfl ?_
  refine r_iload hz dL_law_688 4 rfl ?_
  refine r_iconst (v := 3) hz dL_law_690 rfl ?_
  refine r_iadd hz dL_law_691 ?_
  refine r_sld hz hG dL_law_692 ?_
  refine r_aload_n hz dL_law_693 0 rfl ?_
  refine r_iload hz dL_law_694 4 rfl ?_
  refine r_iconst (v := 4) hz dL_law_696 rfl ?_
  refine r_iadd hz dL_law_697 ?_
  refine r_sld hz hG dL_law_698 ?_
  refine r_callVi (As := fun _ => [.int (xs ((x4 + (1 : Int32))).toNatClampNeg), .int (xs ((x4 + (2 : Int32))).toNatClampNeg), .int (xs ((x4 + (3 : Int32))).toNatClampNeg), .int (xs ((x4 + (4 : Int32))).toNatClampNeg)]) cl8 hz (fun _ _ h => t_X8_sell _ _ _ _ _ _ _ _ h) cal_X8_sell dL_law_699 wm_6_173 wm_6_174 wm_6_175 rfl rfl (Nat.le_of_ble_eq_true rfl) ⟨(Nat.le_of_ble_eq_true rfl), (Nat.le_of_ble_eq_true rfl)⟩ ⟨by show kk + 10 + 0 ≤ 601024; omega, by show nn + 1152 + 0 ≤ 7293034; omega⟩ (fun v4 M3 => ?_)
  refine r_icmp_eq (tgt := 1559) hz dL_law_702 rfl ?_ ?_
  · refine r_cs (k' := kk + 20) (n' := nn + 3000) (by show kk + 10 + 0 ≤ kk + 20; omega) (by show nn + 1152 + 0 ≤ nn + 3000; omega) ?_
    exact HR M3
  · refine r_iconst (v := 0) hz dL_law_705 rfl ?_
    exact r_none
def f_law_c12 (xs : Nat → Int32) (L x1 x2 x3 : Nat) (x4 : Int32) (r : Mm → Option (Int32 × Mm)) (M : Mm) : Option (Int32 × Mm) :=
  ck (inb (x4 + (1 : Int32)) L) (ck (inb (x4 + (2 : Int32)) L) (ck (gK M x1 = 7) (bd (f_X7_put x1 (xs ((x4 + (1 : Int32))).toNatClampNeg) (xs ((x4 + (2 : Int32))).toNatClampNeg) M) fun v2 M1 =>
  ck (inb (x4 + (1 : Int32)) L) (ck (inb (x4 + (2 : Int32)) L) (ck (gK M1 x2 = 8) (bd (f_X8_put x2 (xs ((x4 + (1 : Int32))).toNatClampNeg) (xs ((x4 + (2 : Int32))).toNatClampNeg) M1) fun v4 M3 =>
  (if v2 = v4 then
    r M3
  else
    none)))))))
set_option maxRecDepth 20000 in
set_option maxHeartbeats 4000000 in
theorem s_law_c12 {z : Zt} {b L : Nat} {xs : Nat → Int32} {K : Int32 → Mm → Prop} {rr : Option FieldType} (hz : Good z RL code 7 room_1 rr) (hG : GoodL z b L xs) (kk nn : Nat) (hk : kk + 20 ≤ 601024) (hn : nn + 3000 ≤ 7293034) {x1 x2 x3 : Nat} {x4 : Int32} {r : Mm → Option (Int32 × Mm)} (HR : ∀ M, Sim z 1559 [(0, .ref b), (1, .ref x1), (2, .ref x2), (3, .ref x3), (4, .int x4)] [] M (kk + 20) (nn + 3000) (r M) K) : ∀ M, Sim z 707 [(0, .ref b), (1, .ref x1), (2, .ref x2), (3, .ref x3), (4, .int x4)] [] M kk nn (f_law_c12 xs L x1 x2 x3 x4 r M) K := by
  intro M
  unfold f_law_c12
  refine r_aload_n hz dL_law_707 1 rfl ?_
  refine r_aload_n hz dL_law_708 0 rfl ?_
  refine r_iload hz dL_law_709 4 rfl ?_
  refine r_iconst (v := 1) hz dL_law_711 rfl ?_
  refine r_iadd hz dL_law_712 ?_
  refine r_sld hz hG dL_law_713 ?_
  refine r_aload_n hz dL_law_714 0 rfl ?_
  refine r_iload hz dL_law_715 4 rfl ?_
  refine r_iconst (v := 2) hz dL_law_717 rfl ?_
  refine r_iadd hz dL_law_718 ?_
  refine r_sld hz hG dL_law_719 ?_
  refine r_callVi (As := fun _ => [.int (xs ((x4 + (1 : Int32))).toNatClampNeg), .int (xs ((x4 + (2 : Int32))).toNatClampNeg)]) cl7 hz (fun _ _ h => t_X7_put _ _ _ _ _ _ h) cal_X7_put dL_law_720 wm_4_37 wm_4_38 wm_4_39 rfl rfl (Nat.le_of_ble_eq_true rfl) ⟨(Nat.le_of_ble_eq_true rfl), (Nat.le_of_ble_eq_true rfl)⟩ ⟨by show kk + 10 ≤ 601024; omega, by show nn + 1152 ≤ 7293034; omega⟩ (fun v2 M1 => ?_)
  refine r_aload_n hz dL_law_723 2 rfl ?_
  refine r_aload_n hz dL_law_724 0 rfl ?_
  refine r_iload hz dL_law_725 4 rfl ?_
  refine r_iconst (v := 1) hz dL_law_727 rfl ?_
  refine r_iadd hz dL_law_728 ?_
  refine r_sld hz hG dL_law_729 ?_
  refine r_aload_n hz dL_law_730 0 rfl ?_
  refine r_iload hz dL_law_731 4 rfl ?_
  refine r_iconst (v := 2) hz dL_law_733 rfl ?_
  refine r_iadd hz dL_law_734 ?_
  refine r_sld hz hG dL_law_735 ?_
  refine r_callVi (As := fun _ => [.int (xs ((x4 + (1 : Int32))).toNatClampNeg), .int (xs ((x4 + (2 : Int32))).toNatClampNeg)]) cl8 hz (fun _ _ h => t_X8_put _ _ _ _ _ _ h) cal_X8_put dL_law_736 wm_6_178 wm_6_179 wm_6_180 rfl rfl (Nat.le_of_ble_eq_true rfl) ⟨(Nat.le_of_ble_eq_true rfl), (Nat.le_of_ble_eq_true rfl)⟩ ⟨by show kk + 10 + 0 ≤ 601024; omega, by show nn + 1152 + 0 ≤ 7293034; omega⟩ (fun v4 M3 => ?_)
  refine r_icmp_eq (tgt := 1559) hz dL_law_739 rfl ?_ ?_
  · refine r_cs (k' := kk + 20) (n' := nn + 3000) (by show kk + 10 + 0 ≤ kk + 20; omega) (by show nn + 1152 + 0 ≤ nn + 3000; omega) ?_
    exact HR M3
  · refine r_iconst (v := 0) hz dL_law_742 rfl ?_
    exact r_none
def f_law_c13 (xs : Nat → Int32) (L x1 x2 x3 : Nat) (x4 : Int32) (r : Mm → Option (Int32 × Mm)) (M : Mm) : Option (Int32 × Mm) :=
  ck (inb (x4 + (1 : Int32)) L) (ck (inb (x4 + (2 : Int32)) L) (ck (inb (x4 + (3 : Int32)) L) (ck (gK M x1 = 7) (bd (f_X7_priced x1 (xs ((x4 + (1 : Int32))).toNatClampNeg) (xs ((x4 + (2 : Int32))).toNatClampNeg) (xs ((x4 + (3 : Int32))).toNatClampNeg) M) fun v2 M1 =>
  ck (inb (x4 + (1 : Int32)) L) (ck (inb (x4 + (2 : Int32)) L) (ck (inb (x4 + (3 : Int32)) L) (ck (gK M1 x2 = 8) (bd (f_X8_priced x2 (xs ((x4 + (1 : Int32))).toNatClampNeg) (xs ((x4 + (2 : Int32))).toNatClampNeg) (xs ((x4 + (3 : Int32))).toNatClampNeg) M1) fun v4 M3 =>
  (if v2 = v4 then
    r M3
  else
    none)))))))))
set_option maxRecDepth 20000 in
set_option maxHeartbeats 4000000 in
theorem s_law_c13 {z : Zt} {b L : Nat} {xs : Nat → Int32} {K : Int32 → Mm → Prop} {rr : Option FieldType} (hz : Good z RL code 7 room_1 rr) (hG : GoodL z b L xs) (kk nn : Nat) (hk : kk + 20 ≤ 601024) (hn : nn + 3000 ≤ 7293034) {x1 x2 x3 : Nat} {x4 : Int32} {r : Mm → Option (Int32 × Mm)} (HR : ∀ M, Sim z 1559 [(0, .ref b), (1, .ref x1), (2, .ref x2), (3, .ref x3), (4, .int x4)] [] M (kk + 20) (nn + 3000) (r M) K) : ∀ M, Sim z 744 [(0, .ref b), (1, .ref x1), (2, .ref x2), (3, .ref x3), (4, .int x4)] [] M kk nn (f_law_c13 xs L x1 x2 x3 x4 r M) K := by
  intro M
  unfold f_law_c13
  refine r_aload_n hz dL_law_744 1 rfl ?_
  refine r_aload_n hz dL_law_745 0 rfl ?_
  refine r_iload hz dL_law_746 4 rfl ?_
  refine r_iconst (v := 1) hz dL_law_748 rfl ?_
  refine r_iadd hz dL_law_749 ?_
  refine r_sld hz hG dL_law_750 ?_
  refine r_aload_n hz dL_law_751 0 rfl ?_
  refine r_iload hz dL_law_752 4 rfl ?_
  refine r_iconst (v := 2) hz dL_law_754 rfl ?_
  refine r_iadd hz dL_law_755 ?_
  refine r_sld hz hG dL_law_756 ?_
  refine r_aload_n hz dL_law_757 0 rfl ?_
  refine r_iload hz dL_law_758 4 rfl ?_
  refine r_iconst (v := 3) hz dL_law_760 rfl ?_
  refine r_iadd hz dL_law_761 ?_
  refine r_sld hz hG dL_law_762 ?_
  refine r_callVi (As := fun _ => [.int (xs ((x4 + (1 : Int32))).toNatClampNeg), .int (xs ((x4 + (2 : Int32))).toNatClampNeg), .int (xs ((x4 + (3 : Int32))).toNatClampNeg)]) cl7 hz (fun _ _ h => t_X7_priced _ _ _ _ _ _ _ h) cal_X7_priced dL_law_763 wm_4_45 wm_4_46 wm_4_47 rfl rfl (Nat.le_of_ble_eq_true rfl) ⟨(Nat.le_of_ble_eq_true rfl), (Nat.le_of_ble_eq_true rfl)⟩ ⟨by show kk + 10 ≤ 601024; omega, by show nn + 1152 ≤ 7293034; omega⟩ (fun v2 M1 => ?_)
  refine r_aload_n hz dL_law_766 2 rfl ?_
  refine r_aload_n hz dL_law_767 0 rfl ?_
  refine r_iload hz dL_law_768 4 rfl ?_
  refine r_iconst (v := 1) hz dL_law_770 rfl ?_
  refine r_iadd hz dL_law_771 ?_
  refine r_sld hz hG dL_law_772 ?_
  refine r_aload_n hz dL_law_773 0 rfl ?_
  refine r_iload hz dL_law_774 4 rfl ?_
  refine r_iconst (v := 2) hz dL_law_776 rfl ?_
  refine r_iadd hz dL_law_777 ?_
  refine r_sld hz hG dL_law_778 ?_
  refine r_aload_n hz dL_law_779 0 rfl ?_
  refine r_iload hz dL_law_780 4 rfl ?_
  refine r_iconst (v := 3) hz dL_law_782 rfl ?_
  refine r_iadd hz dL_law_783 ?_
  refine r_sld hz hG dL_law_784 ?_
  refine r_callVi (As := fun _ => [.int (xs ((x4 + (1 : Int32))).toNatClampNeg), .int (xs ((x4 + (2 : Int32))).toNatClampNeg), .int (xs ((x4 + (3 : Int32))).toNatClampNeg)]) cl8 hz (fun _ _ h => t_X8_priced _ _ _ _ _ _ _ h) cal_X8_priced dL_law_785 wm_6_182 wm_6_183 wm_6_184 rfl rfl (Nat.le_of_ble_eq_true rfl) ⟨(Nat.le_of_ble_eq_true rfl), (Nat.le_of_ble_eq_true rfl)⟩ ⟨by show kk + 10 + 0 ≤ 601024; omega, by show nn + 1152 + 0 ≤ 7293034; omega⟩ (fun v4 M3 => ?_)
  refine r_icmp_eq (tgt := 1559) hz dL_law_788 rfl ?_ ?_
  · refine r_cs (k' := kk + 20) (n' := nn + 3000) (by show kk + 10 + 0 ≤ kk + 20; omega) (by show nn + 1152 + 0 ≤ nn + 3000; omega) ?_
    exact HR M3
  · refine r_iconst (v := 0) hz dL_law_791 rfl ?_
    exact r_none
def f_law_c14 (xs : Nat → Int32) (L x1 x2 x3 : Nat) (x4 : Int32) (r : Mm → Option (Int32 × Mm)) (M : Mm) : Option (Int32 × Mm) :=
  ck (inb (x4 + (1 : Int32)) L) (ck (inb (x4 + (2 : Int32)) L) (ck (gK M x1 = 7) (bd (f_X7_wheel x1 (xs ((x4 + (1 : Int32))).toNatClampNeg) (xs ((x4 + (2 : Int32))).toNatClampNeg) M) fun v2 M1 =>
  ck (inb (x4 + (1 : Int32)) L) (ck (inb (x4 + (2 : Int32)) L) (ck (gK M1 x2 = 8) (bd (f_X8_wheel x2 (xs ((x4 + (1 : Int32))).toNatClampNeg) (xs ((x4 + (2 : Int32))).toNatClampNeg) M1) fun v4 M3 =>
  (if v2 = v4 then
    r M3
  else
    none)))))))
set_option maxRecDepth 20000 in
set_option maxHeartbeats 4000000 in
theorem s_law_c14 {z : Zt} {b L : Nat} {xs : Nat → Int32} {K : Int32 → Mm → Prop} {rr : Option FieldType} (hz : Good z RL code 7 room_1 rr) (hG : GoodL z b L xs) (kk nn : Nat) (hk : kk + 20 ≤ 601024) (hn : nn + 3000 ≤ 7293034) {x1 x2 x3 : Nat} {x4 : Int32} {r : Mm → Option (Int32 × Mm)} (HR : ∀ M, Sim z 1559 [(0, .ref b), (1, .ref x1), (2, .ref x2), (3, .ref x3), (4, .int x4)] [] M (kk + 20) (nn + 3000) (r M) K) : ∀ M, Sim z 793 [(0, .ref b), (1, .ref x1), (2, .ref x2), (3, .ref x3), (4, .int x4)] [] M kk nn (f_law_c14 xs L x1 x2 x3 x4 r M) K := by
  intro M
  unfold f_law_c14
  refine r_aload_n hz dL_law_793 1 rfl ?_
  refine r_aload_n hz dL_law_794 0 rfl ?_
  refine r_iload hz dL_law_795 4 rfl ?_
  refine r_iconst (v := 1) hz dL_law_797 rfl ?_
  refine r_iadd hz dL_law_798 ?_
  refine r_sld hz hG dL_law_799 ?_
  refine r_aload_n hz dL_law_800 0 rfl ?_
  refine r_iload hz dL_law_801 4 rfl ?_
  refine r_iconst (v := 2) hz dL_law_803 rfl ?_
  refine r_iadd hz dL_law_804 ?_
  refine r_sld hz hG dL_law_805 ?_
  refine r_callVi (As := fun _ => [.int (xs ((x4 + (1 : Int32))).toNatClampNeg), .int (xs ((x4 + (2 : Int32))).toNatClampNeg)]) cl7 hz (fun _ _ h => t_X7_wheel _ _ _ _ _ _ h) cal_X7_wheel dL_law_806 wm_4_53 wm_4_54 wm_4_55 rfl rfl (Nat.le_of_ble_eq_true rfl) ⟨(Nat.le_of_ble_eq_true rfl), (Nat.le_of_ble_eq_true rfl)⟩ ⟨by show kk + 10 ≤ 601024; omega, by show nn + 1152 ≤ 7293034; omega⟩ (fun v2 M1 => ?_)
  refine r_aload_n hz dL_law_809 2 rfl ?_
  refine r_aload_n hz dL_law_810 0 rfl ?_
  refine r_iload hz dL_law_811 4 rfl ?_
  refine r_iconst (v := 1) hz dL_law_813 rfl ?_
  refine r_iadd hz dL_law_814 ?_
  refine r_sld hz hG dL_law_815 ?_
  refine r_aload_n hz dL_law_816 0 rfl ?_
  refine r_iload hz dL_law_817 4 rfl ?_
  refine r_iconst (v := 2) hz dL_law_819 rfl ?_
  refine r_iadd hz dL_law_820 ?_
  refine r_sld hz hG dL_law_821 ?_
  refine r_callVi (As := fun _ => [.int (xs ((x4 + (1 : Int32))).toNatClampNeg), .int (xs ((x4 + (2 : Int32))).toNatClampNeg)]) cl8 hz (fun _ _ h => t_X8_wheel _ _ _ _ _ _ h) cal_X8_wheel dL_law_822 wm_6_191 wm_6_192 wm_6_193 rfl rfl (Nat.le_of_ble_eq_true rfl) ⟨(Nat.le_of_ble_eq_true rfl), (Nat.le_of_ble_eq_true rfl)⟩ ⟨by show kk + 10 + 0 ≤ 601024; omega, by show nn + 1152 + 0 ≤ 7293034; omega⟩ (fun v4 M3 => ?_)
  refine r_icmp_eq (tgt := 1559) hz dL_law_825 rfl ?_ ?_
  · refine r_cs (k' := kk + 20) (n' := nn + 3000) (by show kk + 10 + 0 ≤ kk + 20; omega) (by show nn + 1152 + 0 ≤ nn + 3000; omega) ?_
    exact HR M3
  · refine r_iconst (v := 0) hz dL_law_828 rfl ?_
    exact r_none
def f_law_c15 (xs : Nat → Int32) (L x1 x2 x3 : Nat) (x4 : Int32) (r : Mm → Option (Int32 × Mm)) (M : Mm) : Option (Int32 × Mm) :=
  ck (gK M x1 = 7) (bd (f_X7_undo x1 M) fun v2 M1 =>
  ck (gK M1 x2 = 8) (bd (f_X8_undo x2 M1) fun v4 M3 =>
  (if v2 = v4 then
    r M3
  else
    none)))
set_option maxRecDepth 20000 in
set_option maxHeartbeats 4000000 in
theorem s_law_c15 {z : Zt} {b L : Nat} {xs : Nat → Int32} {K : Int32 → Mm → Prop} {rr : Option FieldType} (hz : Good z RL code 7 room_1 rr) (hG : GoodL z b L xs) (kk nn : Nat) (hk : kk + 20 ≤ 601024) (hn : nn + 3000 ≤ 7293034) {x1 x2 x3 : Nat} {x4 : Int32} {r : Mm → Option (Int32 × Mm)} (HR : ∀ M, Sim z 1559 [(0, .ref b), (1, .ref x1), (2, .ref x2), (3, .ref x3), (4, .int x4)] [] M (kk + 20) (nn + 3000) (r M) K) : ∀ M, Sim z 830 [(0, .ref b), (1, .ref x1), (2, .ref x2), (3, .ref x3), (4, .int x4)] [] M kk nn (f_law_c15 xs L x1 x2 x3 x4 r M) K := by
  intro M
  unfold f_law_c15
  refine r_aload_n hz dL_law_830 1 rfl ?_
  refine r_callVi (As := fun _ => []) cl7 hz (fun _ _ h => t_X7_undo _ _ _ _ h) cal_X7_undo dL_law_831 wm_4_58 wm_4_59 wm_4_60 rfl rfl (Nat.le_of_ble_eq_true rfl) ⟨(Nat.le_of_ble_eq_true rfl), (Nat.le_of_ble_eq_true rfl)⟩ ⟨by show kk + 0 ≤ 601024; omega, by show nn + 0 ≤ 7293034; omega⟩ (fun v2 M1 => ?_)
  refine r_aload_n hz dL_law_834 2 rfl ?_
  refine r_callVi (As := fun _ => []) cl8 hz (fun _ _ h => t_X8_undo _ _ _ _ h) cal_X8_undo dL_law_835 wm_6_199 wm_6_200 wm_6_201 rfl rfl (Nat.le_of_ble_eq_true rfl) ⟨(Nat.le_of_ble_eq_true rfl), (Nat.le_of_ble_eq_true rfl)⟩ ⟨by show kk + 0 + 0 ≤ 601024; omega, by show nn + 0 + 0 ≤ 7293034; omega⟩ (fun v4 M3 => ?_)
  refine r_icmp_eq (tgt := 1559) hz dL_law_838 rfl ?_ ?_
  · refine r_cs (k' := kk + 20) (n' := nn + 3000) (by show kk + 0 + 0 ≤ kk + 20; omega) (by show nn + 0 + 0 ≤ nn + 3000; omega) ?_
    exact HR M3
  · refine r_iconst (v := 0) hz dL_law_841 rfl ?_
    exact r_none
def f_law_c16 (xs : Nat → Int32) (L x1 x2 x3 : Nat) (x4 : Int32) (r : Mm → Option (Int32 × Mm)) (M : Mm) : Option (Int32 × Mm) :=
  ck (inb (x4 + (1 : Int32)) L) (ck (inb (x4 + (2 : Int32)) L) ((if (xs ((x4 + (2 : Int32))).toNatClampNeg) = 0 then
    ck (gK M x1 = 7) (bd (f_X7_image x1 (xs ((x4 + (1 : Int32))).toNatClampNeg) (0 : Int32) M) fun v2 M1 =>
    ck (inb (x4 + (1 : Int32)) L) (ck (inb (x4 + (2 : Int32)) L) ((if (xs ((x4 + (2 : Int32))).toNatClampNeg) = 0 then
      ck (gK M1 x2 = 8) (bd (f_X8_image x2 (xs ((x4 + (1 : Int32))).toNatClampNeg) (0 : Int32) M1) fun v4 M3 =>
      (if v2 = v4 then
        r M3
      else
        none))
    else
      ck (gK M1 x2 = 8) (bd (f_X8_image x2 (xs ((x4 + (1 : Int32))).toNatClampNeg) (1 : Int32) M1) fun v6 M5 =>
      (if v2 = v6 then
        r M5
      else
        none))))))
  else
    ck (gK M x1 = 7) (bd (f_X7_image x1 (xs ((x4 + (1 : Int32))).toNatClampNeg) (1 : Int32) M) fun v8 M7 =>
    ck (inb (x4 + (1 : Int32)) L) (ck (inb (x4 + (2 : Int32)) L) ((if (xs ((x4 + (2 : Int32))).toNatClampNeg) = 0 then
      ck (gK M7 x2 = 8) (bd (f_X8_image x2 (xs ((x4 + (1 : Int32))).toNatClampNeg) (0 : Int32) M7) fun v10 M9 =>
      (if v8 = v10 then
        r M9
      else
        none))
    else
      ck (gK M7 x2 = 8) (bd (f_X8_image x2 (xs ((x4 + (1 : Int32))).toNatClampNeg) (1 : Int32) M7) fun v12 M11 =>
      (if v8 = v12 then
        r M11
      else
        none)))))))))
set_option maxRecDepth 20000 in
set_option maxHeartbeats 4000000 in
theorem s_law_c16 {z : Zt} {b L : Nat} {xs : Nat → Int32} {K : Int32 → Mm → Prop} {rr : Option FieldType} (hz : Good z RL code 7 room_1 rr) (hG : GoodL z b L xs) (kk nn : Nat) (hk : kk + 20 ≤ 601024) (hn : nn + 3000 ≤ 7293034) {x1 x2 x3 : Nat} {x4 : Int32} {r : Mm → Option (Int32 × Mm)} (HR : ∀ M, Sim z 1559 [(0, .ref b), (1, .ref x1), (2, .ref x2), (3, .ref x3), (4, .int x4)] [] M (kk + 20) (nn + 3000) (r M) K) : ∀ M, Sim z 843 [(0, .ref b), (1, .ref x1), (2, .ref x2), (3, .ref x3), (4, .int x4)] [] M kk nn (f_law_c16 xs L x1 x2 x3 x4 r M) K := by
  intro M
  unfold f_law_c16
  refine r_aload_n hz dL_law_843 1 rfl ?_
  refine r_aload_n hz dL_law_844 0 rfl ?_
  refine r_iload hz dL_law_845 4 rfl ?_
  refine r_iconst (v := 1) hz dL_law_847 rfl ?_
  refine r_iadd hz dL_law_848 ?_
  refine r_sld hz hG dL_law_849 ?_
  refine r_aload_n hz dL_law_850 0 rfl ?_
  refine r_iload hz dL_law_851 4 rfl ?_
  refine r_iconst (v := 2) hz dL_law_853 rfl ?_
  refine r_iadd hz dL_law_854 ?_
  refine r_sld hz hG dL_law_855 ?_
  refine r_if_eq (tgt := 863) hz dL_law_856 rfl ?_ ?_
  · refine r_iconst (v := 0) hz dL_law_863 rfl ?_
    refine r_callVi (As := fun _ => [.int (xs ((x4 + (1 : Int32))).toNatClampNeg), .int (0 : Int32)]) cl7 hz (fun _ _ h => t_X7_image _ _ _ _ _ _ h) cal_X7_image dL_law_864 wm_4_62 wm_4_63 wm_4_64 rfl rfl (Nat.le_of_ble_eq_true rfl) ⟨(Nat.le_of_ble_eq_true rfl), (Nat.le_of_ble_eq_true rfl)⟩ ⟨by show kk + 10 ≤ 601024; omega, by show nn + 1152 ≤ 7293034; omega⟩ (fun v2 M1 => ?_)
    refine r_aload_n hz dL_law_867 2 rfl ?_
    refine r_aload_n hz dL_law_868 0 rfl ?_
    refine r_iload hz dL_law_869 4 rfl ?_
    refine r_iconst (v := 1) hz dL_law_871 rfl ?_
    refine r_iadd hz dL_law_872 ?_
    refine r_sld hz hG dL_law_873 ?_
    refine r_aload_n hz dL_law_874 0 rfl ?_
    refine r_iload hz dL_law_875 4 rfl ?_
    refine r_iconst (v := 2) hz dL_law_877 rfl ?_
    refine r_iadd hz dL_law_878 ?_
    refine r_sld hz hG dL_law_879 ?_
    refine r_if_eq (tgt := 887) hz dL_law_880 rfl ?_ ?_
    · refine r_iconst (v := 0) hz dL_law_887 rfl ?_
      refine r_callVi (As := fun _ => [.int (xs ((x4 + (1 : Int32))).toNatClampNeg), .int (0 : Int32)]) cl8 hz (fun _ _ h => t_X8_image _ _ _ _ _ _ h) cal_X8_image dL_law_888 wm_6_203 wm_6_204 wm_6_205 rfl rfl (Nat.le_of_ble_eq_true rfl) ⟨(Nat.le_of_ble_eq_true rfl), (Nat.le_of_ble_eq_true rfl)⟩ ⟨by show kk + 10 + 0 ≤ 601024; omega, by show nn + 1152 + 0 ≤ 7293034; omega⟩ (fun v4 M3 => ?_)
      refine r_icmp_eq (tgt := 1559) hz dL_law_891 rfl ?_ ?_
      · refine r_cs (k' := kk + 20) (n' := nn + 3000) (by show kk + 10 + 0 ≤ kk + 20; omega) (by show nn + 1152 + 0 ≤ nn + 3000; omega) ?_
        exact HR M3
      · refine r_iconst (v := 0) hz dL_law_894 rfl ?_
        exact r_none
    · refine r_iconst (v := 1) hz dL_law_883 rfl ?_
      refine r_goto (tgt := 888) hz dL_law_884 rfl ?_
      refine r_callVi (As := fun _ => [.int (xs ((x4 + (1 : Int32))).toNatClampNeg), .int (1 : Int32)]) cl8 hz (fun _ _ h => t_X8_image _ _ _ _ _ _ h) cal_X8_image dL_law_888 wm_6_203 wm_6_204 wm_6_205 rfl rfl (Nat.le_of_ble_eq_true rfl) ⟨(Nat.le_of_ble_eq_true rfl), (Nat.le_of_ble_eq_true rfl)⟩ ⟨by show kk + 10 + 0 ≤ 601024; omega, by show nn + 1152 + 0 ≤ 7293034; omega⟩ (fun v6 M5 => ?_)
      refine r_icmp_eq (tgt := 1559) hz dL_law_891 rfl ?_ ?_
      · refine r_cs (k' := kk + 20) (n' := nn + 3000) (by show kk + 10 + 0 ≤ kk + 20; omega) (by show nn + 1152 + 0 ≤ nn + 3000; omega) ?_
        exact HR M5
      · refine r_iconst (v := 0) hz dL_law_894 rfl ?_
        exact r_none
  · refine r_iconst (v := 1) hz dL_law_859 rfl ?_
    refine r_goto (tgt := 864) hz dL_law_860 rfl ?_
    refine r_callVi (As := fun _ => [.int (xs ((x4 + (1 : Int32))).toNatClampNeg), .int (1 : Int32)]) cl7 hz (fun _ _ h => t_X7_image _ _ _ _ _ _ h) cal_X7_image dL_law_864 wm_4_62 wm_4_63 wm_4_64 rfl rfl (Nat.le_of_ble_eq_true rfl) ⟨(Nat.le_of_ble_eq_true rfl), (Nat.le_of_ble_eq_true rfl)⟩ ⟨by show kk + 10 ≤ 601024; omega, by show nn + 1152 ≤ 7293034; omega⟩ (fun v8 M7 => ?_)
    refine r_aload_n hz dL_law_867 2 rfl ?_
    refine r_aload_n hz dL_law_868 0 rfl ?_
    refine r_iload hz dL_law_869 4 rfl ?_
    refine r_iconst (v := 1) hz dL_law_871 rfl ?_
    refine r_iadd hz dL_law_872 ?_
    refine r_sld hz hG dL_law_873 ?_
    refine r_aload_n hz dL_law_874 0 rfl ?_
    refine r_iload hz dL_law_875 4 rfl ?_
    refine r_iconst (v := 2) hz dL_law_877 rfl ?_
    refine r_iadd hz dL_law_878 ?_
    refine r_sld hz hG dL_law_879 ?_
    refine r_if_eq (tgt := 887) hz dL_law_880 rfl ?_ ?_
    · refine r_iconst (v := 0) hz dL_law_887 rfl ?_
      refine r_callVi (As := fun _ => [.int (xs ((x4 + (1 : Int32))).toNatClampNeg), .int (0 : Int32)]) cl8 hz (fun _ _ h => t_X8_image _ _ _ _ _ _ h) cal_X8_image dL_law_888 wm_6_203 wm_6_204 wm_6_205 rfl rfl (Nat.le_of_ble_eq_true rfl) ⟨(Nat.le_of_ble_eq_true rfl), (Nat.le_of_ble_eq_true rfl)⟩ ⟨by show kk + 10 + 0 ≤ 601024; omega, by show nn + 1152 + 0 ≤ 7293034; omega⟩ (fun v10 M9 => ?_)
      refine r_icmp_eq (tgt := 1559) hz dL_law_891 rfl ?_ ?_
      · refine r_cs (k' := kk + 20) (n' := nn + 3000) (by show kk + 10 + 0 ≤ kk + 20; omega) (by show nn + 1152 + 0 ≤ nn + 3000; omega) ?_
        exact HR M9
      · refine r_iconst (v := 0) hz dL_law_894 rfl ?_
        exact r_none
    · refine r_iconst (v := 1) hz dL_law_883 rfl ?_
      refine r_goto (tgt := 888) hz dL_law_884 rfl ?_
      refine r_callVi (As := fun _ => [.int (xs ((x4 + (1 : Int32))).toNatClampNeg), .int (1 : Int32)]) cl8 hz (fun _ _ h => t_X8_image _ _ _ _ _ _ h) cal_X8_image dL_law_888 wm_6_203 wm_6_204 wm_6_205 rfl rfl (Nat.le_of_ble_eq_true rfl) ⟨(Nat.le_of_ble_eq_true rfl), (Nat.le_of_ble_eq_true rfl)⟩ ⟨by show kk + 10 + 0 ≤ 601024; omega, by show nn + 1152 + 0 ≤ 7293034; omega⟩ (fun v12 M11 => ?_)
      refine r_icmp_eq (tgt := 1559) hz dL_law_891 rfl ?_ ?_
      · refine r_cs (k' := kk + 20) (n' := nn + 3000) (by show kk + 10 + 0 ≤ kk + 20; omega) (by show nn + 1152 + 0 ≤ nn + 3000; omega) ?_
        exact HR M11
      · refine r_iconst (v := 0) hz dL_law_894 rfl ?_
        exact r_none
def f_law_c17 (xs : Nat → Int32) (L x1 x2 x3 : Nat) (x4 : Int32) (r : Mm → Option (Int32 × Mm)) (M : Mm) : Option (Int32 × Mm) :=
  ck (inb (x4 + (1 : Int32)) L) (ck (inb (x4 + (2 : Int32)) L) (ck (inb (x4 + (3 : Int32)) L) (ck (gK M x1 = 7) (bd (f_X7_row x1 (xs ((x4 + (1 : Int32))).toNatClampNeg) (xs ((x4 + (2 : Int32))).toNatClampNeg) (xs ((x4 + (3 : Int32))).toNatClampNeg) M) fun v2 M1 =>
  ck (inb (x4 + (1 : Int32)) L) (ck (inb (x4 + (2 : Int32)) L) (ck (inb (x4 + (3 : Int32)) L) (ck (gK M1 x2 = 8) (bd (f_X8_row x2 (xs ((x4 + (1 : Int32))).toNatClampNeg) (xs ((x4 + (2 : Int32))).toNatClampNeg) (xs ((x4 + (3 : Int32))).toNatClampNeg) M1) fun v4 M3 =>
  (if v2 = v4 then
    r M3
  else
    none)))))))))
set_option maxRecDepth 20000 in
set_option maxHeartbeats 4000000 in
theorem s_law_c17 {z : Zt} {b L : Nat} {xs : Nat → Int32} {K : Int32 → Mm → Prop} {rr : Option FieldType} (hz : Good z RL code 7 room_1 rr) (hG : GoodL z b L xs) (kk nn : Nat) (hk : kk + 20 ≤ 601024) (hn : nn + 3000 ≤ 7293034) {x1 x2 x3 : Nat} {x4 : Int32} {r : Mm → Option (Int32 × Mm)} (HR : ∀ M, Sim z 1559 [(0, .ref b), (1, .ref x1), (2, .ref x2), (3, .ref x3), (4, .int x4)] [] M (kk + 20) (nn + 3000) (r M) K) : ∀ M, Sim z 896 [(0, .ref b), (1, .ref x1), (2, .ref x2), (3, .ref x3), (4, .int x4)] [] M kk nn (f_law_c17 xs L x1 x2 x3 x4 r M) K := by
  intro M
  unfold f_law_c17
  refine r_aload_n hz dL_law_896 1 rfl ?_
  refine r_aload_n hz dL_law_897 0 rfl ?_
  refine r_iload hz dL_law_898 4 rfl ?_
  refine r_iconst (v := 1) hz dL_law_900 rfl ?_
  refine r_iadd hz dL_law_901 ?_
  refine r_sld hz hG dL_law_902 ?_
  refine r_aload_n hz dL_law_903 0 rfl ?_
  refine r_iload hz dL_law_904 4 rfl ?_
  refine r_iconst (v := 2) hz dL_law_906 rfl ?_
  refine r_iadd hz dL_law_907 ?_
  refine r_sld hz hG dL_law_908 ?_
  refine r_aload_n hz dL_law_909 0 rfl ?_
  refine r_iload hz dL_law_910 4 rfl ?_
  refine r_iconst (v := 3) hz dL_law_912 rfl ?_
  refine r_iadd hz dL_law_913 ?_
  refine r_sld hz hG dL_law_914 ?_
  refine r_callVi (As := fun _ => [.int (xs ((x4 + (1 : Int32))).toNatClampNeg), .int (xs ((x4 + (2 : Int32))).toNatClampNeg), .int (xs ((x4 + (3 : Int32))).toNatClampNeg)]) cl7 hz (fun _ _ h => t_X7_row _ _ _ _ _ _ _ h) cal_X7_row dL_law_915 wm_4_66 wm_4_67 wm_4_68 rfl rfl (Nat.le_of_ble_eq_true rfl) ⟨(Nat.le_of_ble_eq_true rfl), (Nat.le_of_ble_eq_true rfl)⟩ ⟨by show kk + 0 ≤ 601024; omega, by show nn + 0 ≤ 7293034; omega⟩ (fun v2 M1 => ?_)
  refine r_aload_n hz dL_law_918 2 rfl ?_
  refine r_aload_n hz dL_law_919 0 rfl ?_
  refine r_iload hz dL_law_920 4 rfl ?_
  refine r_iconst (v := 1) hz dL_law_922 rfl ?_
  refine r_iadd hz dL_law_923 ?_
  refine r_sld hz hG dL_law_924 ?_
  refine r_aload_n hz dL_law_925 0 rfl ?_
  refine r_iload hz dL_law_926 4 rfl ?_
  refine r_iconst (v := 2) hz dL_law_928 rfl ?_
  refine r_iadd hz dL_law_929 ?_
  refine r_sld hz hG dL_law_930 ?_
  refine r_aload_n hz dL_law_931 0 rfl ?_
  refine r_iload hz dL_law_932 4 rfl ?_
  refine r_iconst (v := 3) hz dL_law_934 rfl ?_
  refine r_iadd hz dL_law_935 ?_
  refine r_sld hz hG dL_law_936 ?_
  refine r_callVi (As := fun _ => [.int (xs ((x4 + (1 : Int32))).toNatClampNeg), .int (xs ((x4 + (2 : Int32))).toNatClampNeg), .int (xs ((x4 + (3 : Int32))).toNatClampNeg)]) cl8 hz (fun _ _ h => t_X8_row _ _ _ _ _ _ _ h) cal_X8_row dL_law_937 wm_6_207 wm_6_208 wm_6_209 rfl rfl (Nat.le_of_ble_eq_true rfl) ⟨(Nat.le_of_ble_eq_true rfl), (Nat.le_of_ble_eq_true rfl)⟩ ⟨by show kk + 0 + 0 ≤ 601024; omega, by show nn + 0 + 0 ≤ 7293034; omega⟩ (fun v4 M3 => ?_)
  refine r_icmp_eq (tgt := 1559) hz dL_law_940 rfl ?_ ?_
  · refine r_cs (k' := kk + 20) (n' := nn + 3000) (by show kk + 0 + 0 ≤ kk + 20; omega) (by show nn + 0 + 0 ≤ nn + 3000; omega) ?_
    exact HR M3
  · refine r_iconst (v := 0) hz dL_law_943 rfl ?_
    exact r_none
def f_law_c18 (xs : Nat → Int32) (L x1 x2 x3 : Nat) (x4 : Int32) (r : Mm → Option (Int32 × Mm)) (M : Mm) : Option (Int32 × Mm) :=
  ck (inb (x4 + (1 : Int32)) L) (ck (gK M x1 = 7) (bd (f_X7_toPay x1 (xs ((x4 + (1 : Int32))).toNatClampNeg) M) fun v2 M1 =>
  ck (inb (x4 + (1 : Int32)) L) (ck (gK M1 x2 = 8) (bd (f_X8_toPay x2 (xs ((x4 + (1 : Int32))).toNatClampNeg) M1) fun v4 M3 =>
  (if v2 = v4 then
    r M3
  else
    none)))))
set_option maxRecDepth 20000 in
set_option maxHeartbeats 4000000 in
theorem s_law_c18 {z : Zt} {b L : Nat} {xs : Nat → Int32} {K : Int32 → Mm → Prop} {rr : Option FieldType} (hz : Good z RL code 7 room_1 rr) (hG : GoodL z b L xs) (kk nn : Nat) (hk : kk + 20 ≤ 601024) (hn : nn + 3000 ≤ 7293034) {x1 x2 x3 : Nat} {x4 : Int32} {r : Mm → Option (Int32 × Mm)} (HR : ∀ M, Sim z 1559 [(0, .ref b), (1, .ref x1), (2, .ref x2), (3, .ref x3), (4, .int x4)] [] M (kk + 20) (nn + 3000) (r M) K) : ∀ M, Sim z 945 [(0, .ref b), (1, .ref x1), (2, .ref x2), (3, .ref x3), (4, .int x4)] [] M kk nn (f_law_c18 xs L x1 x2 x3 x4 r M) K := by
  intro M
  unfold f_law_c18
  refine r_aload_n hz dL_law_945 1 rfl ?_
  refine r_aload_n hz dL_law_946 0 rfl ?_
  refine r_iload hz dL_law_947 4 rfl ?_
  refine r_iconst (v := 1) hz dL_law_949 rfl ?_
  refine r_iadd hz dL_law_950 ?_
  refine r_sld hz hG dL_law_951 ?_
  refine r_callVl (As := fun _ => [.int (xs ((x4 + (1 : Int32))).toNatClampNeg)]) cl7 hz (fun _ _ h => t_X7_toPay _ _ _ _ _ h) cal_X7_toPay dL_law_952 wm_4_70 wm_4_71 wm_4_72 rfl rfl (Nat.le_of_ble_eq_true rfl) ⟨(Nat.le_of_ble_eq_true rfl), (Nat.le_of_ble_eq_true rfl)⟩ ⟨by show kk + 0 ≤ 601024; omega, by show nn + 0 ≤ 7293034; omega⟩ (fun v2 M1 => ?_)
  refine r_aload_n hz dL_law_955 2 rfl ?_
  refine r_aload_n hz dL_law_956 0 rfl ?_
  refine r_iload hz dL_law_957 4 rfl ?_
  refine r_iconst (v := 1) hz dL_law_959 rfl ?_
  refine r_iadd hz dL_law_960 ?_
  refine r_sld hz hG dL_law_961 ?_
  refine r_callVl (As := fun _ => [.int (xs ((x4 + (1 : Int32))).toNatClampNeg)]) cl8 hz (fun _ _ h => t_X8_toPay _ _ _ _ _ h) cal_X8_toPay dL_law_962 wm_6_220 wm_6_221 wm_6_222 rfl rfl (Nat.le_of_ble_eq_true rfl) ⟨(Nat.le_of_ble_eq_true rfl), (Nat.le_of_ble_eq_true rfl)⟩ ⟨by show kk + 0 + 0 ≤ 601024; omega, by show nn + 0 + 0 ≤ 7293034; omega⟩ (fun v4 M3 => ?_)
  refine r_lcmp_eq (tgt := 1559) hz dL_law_965 dL_law_966 rfl ?_ ?_
  · refine r_cs (k' := kk + 20) (n' := nn + 3000) (by show kk + 0 + 0 ≤ kk + 20; omega) (by show nn + 0 + 0 ≤ nn + 3000; omega) ?_
    exact HR M3
  · refine r_iconst (v := 0) hz dL_law_969 rfl ?_
    exact r_none
def f_law_c19 (xs : Nat → Int32) (L x1 x2 x3 : Nat) (x4 : Int32) (r : Mm → Option (Int32 × Mm)) (M : Mm) : Option (Int32 × Mm) :=
  ck (inb (x4 + (1 : Int32)) L) (ck (inb (x4 + (2 : Int32)) L) (ck (gK M x1 = 7) (bd (f_X7_odds x1 (xs ((x4 + (1 : Int32))).toNatClampNeg) (xs ((x4 + (2 : Int32))).toNatClampNeg) M) fun v2 M1 =>
  ck (inb (x4 + (1 : Int32)) L) (ck (inb (x4 + (2 : Int32)) L) (ck (gK M1 x2 = 8) (bd (f_X8_odds x2 (xs ((x4 + (1 : Int32))).toNatClampNeg) (xs ((x4 + (2 : Int32))).toNatClampNeg) M1) fun v4 M3 =>
  (if v2 = v4 then
    r M3
  else
    none)))))))
set_option maxRecDepth 20000 in
set_option maxHeartbeats 4000000 in
theorem s_law_c19 {z : Zt} {b L : Nat} {xs : Nat → Int32} {K : Int32 → Mm → Prop} {rr : Option FieldType} (hz : Good z RL code 7 room_1 rr) (hG : GoodL z b L xs) (kk nn : Nat) (hk : kk + 20 ≤ 601024) (hn : nn + 3000 ≤ 7293034) {x1 x2 x3 : Nat} {x4 : Int32} {r : Mm → Option (Int32 × Mm)} (HR : ∀ M, Sim z 1559 [(0, .ref b), (1, .ref x1), (2, .ref x2), (3, .ref x3), (4, .int x4)] [] M (kk + 20) (nn + 3000) (r M) K) : ∀ M, Sim z 971 [(0, .ref b), (1, .ref x1), (2, .ref x2), (3, .ref x3), (4, .int x4)] [] M kk nn (f_law_c19 xs L x1 x2 x3 x4 r M) K := by
  intro M
  unfold f_law_c19
  refine r_aload_n hz dL_law_971 1 rfl ?_
  refine r_aload_n hz dL_law_972 0 rfl ?_
  refine r_iload hz dL_law_973 4 rfl ?_
  refine r_iconst (v := 1) hz dL_law_975 rfl ?_
  refine r_iadd hz dL_law_976 ?_
  refine r_sld hz hG dL_law_977 ?_
  refine r_aload_n hz dL_law_978 0 rfl ?_
  refine r_iload hz dL_law_979 4 rfl ?_
  refine r_iconst (v := 2) hz dL_law_981 rfl ?_
  refine r_iadd hz dL_law_982 ?_
  refine r_sld hz hG dL_law_983 ?_
  refine r_callVl (As := fun _ => [.int (xs ((x4 + (1 : Int32))).toNatClampNeg), .int (xs ((x4 + (2 : Int32))).toNatClampNeg)]) cl7 hz (fun _ _ h => t_X7_odds _ _ _ _ _ _ h) cal_X7_odds dL_law_984 wm_4_79 wm_4_80 wm_4_81 rfl rfl (Nat.le_of_ble_eq_true rfl) ⟨(Nat.le_of_ble_eq_true rfl), (Nat.le_of_ble_eq_true rfl)⟩ ⟨by show kk + 0 ≤ 601024; omega, by show nn + 0 ≤ 7293034; omega⟩ (fun v2 M1 => ?_)
  refine r_aload_n hz dL_law_987 2 rfl ?_
  refine r_aload_n hz dL_law_988 0 rfl ?_
  refine r_iload hz dL_law_989 4 rfl ?_
  refine r_iconst (v := 1) hz dL_law_991 rfl ?_
  refine r_iadd hz dL_law_992 ?_
  refine r_sld hz hG dL_law_993 ?_
  refine r_aload_n hz dL_law_994 0 rfl ?_
  refine r_iload hz dL_law_995 4 rfl ?_
  refine r_iconst (v := 2) hz dL_law_997 rfl ?_
  refine r_iadd hz dL_law_998 ?_
  refine r_sld hz hG dL_law_999 ?_
  refine r_callVl (As := fun _ => [.int (xs ((x4 + (1 : Int32))).toNatClampNeg), .int (xs ((x4 + (2 : Int32))).toNatClampNeg)]) cl8 hz (fun _ _ h => t_X8_odds _ _ _ _ _ _ h) cal_X8_odds dL_law_1000 wm_6_233 wm_6_234 wm_6_235 rfl rfl (Nat.le_of_ble_eq_true rfl) ⟨(Nat.le_of_ble_eq_true rfl), (Nat.le_of_ble_eq_true rfl)⟩ ⟨by show kk + 0 + 0 ≤ 601024; omega, by show nn + 0 + 0 ≤ 7293034; omega⟩ (fun v4 M3 => ?_)
  refine r_lcmp_eq (tgt := 1559) hz dL_law_1003 dL_law_1004 rfl ?_ ?_
  · refine r_cs (k' := kk + 20) (n' := nn + 3000) (by show kk + 0 + 0 ≤ kk + 20; omega) (by show nn + 0 + 0 ≤ nn + 3000; omega) ?_
    exact HR M3
  · refine r_iconst (v := 0) hz dL_law_1007 rfl ?_
    exact r_none
def f_law_c20 (xs : Nat → Int32) (L x1 x2 x3 : Nat) (x4 : Int32) (r : Mm → Option (Int32 × Mm)) (M : Mm) : Option (Int32 × Mm) :=
  ck (inb (x4 + (1 : Int32)) L) (ck (inb (x4 + (2 : Int32)) L) (ck (gK M x1 = 7) (bd (f_X7_worth x1 (xs ((x4 + (1 : Int32))).toNatClampNeg) (xs ((x4 + (2 : Int32))).toNatClampNeg) M) fun v2 M1 =>
  ck (inb (x4 + (1 : Int32)) L) (ck (inb (x4 + (2 : Int32)) L) (ck (gK M1 x2 = 8) (bd (f_X8_worth x2 (xs ((x4 + (1 : Int32))).toNatClampNeg) (xs ((x4 + (2 : Int32))).toNatClampNeg) M1) fun v4 M3 =>
  (if v2 = v4 then
    r M3
  else
    none)))))))
set_option maxRecDepth 20000 in
set_option maxHeartbeats 4000000 in
theorem s_law_c20 {z : Zt} {b L : Nat} {xs : Nat → Int32} {K : Int32 → Mm → Prop} {rr : Option FieldType} (hz : Good z RL code 7 room_1 rr) (hG : GoodL z b L xs) (kk nn : Nat) (hk : kk + 20 ≤ 601024) (hn : nn + 3000 ≤ 7293034) {x1 x2 x3 : Nat} {x4 : Int32} {r : Mm → Option (Int32 × Mm)} (HR : ∀ M, Sim z 1559 [(0, .ref b), (1, .ref x1), (2, .ref x2), (3, .ref x3), (4, .int x4)] [] M (kk + 20) (nn + 3000) (r M) K) : ∀ M, Sim z 1009 [(0, .ref b), (1, .ref x1), (2, .ref x2), (3, .ref x3), (4, .int x4)] [] M kk nn (f_law_c20 xs L x1 x2 x3 x4 r M) K := by
  intro M
  unfold f_law_c20
  refine r_aload_n hz dL_law_1009 1 rfl ?_
  refine r_aload_n hz dL_law_1010 0 rfl ?_
  refine r_iload hz dL_law_1011 4 rfl ?_
  refine r_iconst (v := 1) hz dL_law_1013 rfl ?_
  refine r_iadd hz dL_law_1014 ?_
  refine r_sld hz hG dL_law_1015 ?_
  refine r_aload_n hz dL_law_1016 0 rfl ?_
  refine r_iload hz dL_law_1017 4 rfl ?_
  refine r_iconst (v := 2) hz dL_law_1019 rfl ?_
  refine r_iadd hz dL_law_1020 ?_
  refine r_sld hz hG dL_law_1021 ?_
  refine r_callVl (As := fun _ => [.int (xs ((x4 + (1 : Int32))).toNatClampNeg), .int (xs ((x4 + (2 : Int32))).toNatClampNeg)]) cl7 hz (fun _ _ h => t_X7_worth _ _ _ _ _ _ h) cal_X7_worth dL_law_1022 wm_4_94 wm_4_95 wm_4_96 rfl rfl (Nat.le_of_ble_eq_true rfl) ⟨(Nat.le_of_ble_eq_true rfl), (Nat.le_of_ble_eq_true rfl)⟩ ⟨by show kk + 0 ≤ 601024; omega, by show nn + 0 ≤ 7293034; omega⟩ (fun v2 M1 => ?_)
  refine r_aload_n hz dL_law_1025 2 rfl ?_
  refine r_aload_n hz dL_law_1026 0 rfl ?_
  refine r_iload hz dL_law_1027 4 rfl ?_
  refine r_iconst (v := 1) hz dL_law_1029 rfl ?_
  refine r_iadd hz dL_law_1030 ?_
  refine r_sld hz hG dL_law_1031 ?_
  refine r_aload_n hz dL_law_1032 0 rfl ?_
  refine r_iload hz dL_law_1033 4 rfl ?_
  refine r_iconst (v := 2) hz dL_law_1035 rfl ?_
  refine r_iadd hz dL_law_1036 ?_
  refine r_sld hz hG dL_law_1037 ?_
  refine r_callVl (As := fun _ => [.int (xs ((x4 + (1 : Int32))).toNatClampNeg), .int (xs ((x4 + (2 : Int32))).toNatClampNeg)]) cl8 hz (fun _ _ h => t_X8_worth _ _ _ _ _ _ h) cal_X8_worth dL_law_1038 wm_7_5 wm_7_6 wm_7_7 rfl rfl (Nat.le_of_ble_eq_true rfl) ⟨(Nat.le_of_ble_eq_true rfl), (Nat.le_of_ble_eq_true rfl)⟩ ⟨by show kk + 0 + 0 ≤ 601024; omega, by show nn + 0 + 0 ≤ 7293034; omega⟩ (fun v4 M3 => ?_)
  refine r_lcmp_eq (tgt := 1559) hz dL_law_1041 dL_law_1042 rfl ?_ ?_
  · refine r_cs (k' := kk + 20) (n' := nn + 3000) (by show kk + 0 + 0 ≤ kk + 20; omega) (by show nn + 0 + 0 ≤ nn + 3000; omega) ?_
    exact HR M3
  · refine r_iconst (v := 0) hz dL_law_1045 rfl ?_
    exact r_none
def f_law_c21 (xs : Nat → Int32) (L x1 x2 x3 : Nat) (x4 : Int32) (r : Mm → Option (Int32 × Mm)) (M : Mm) : Option (Int32 × Mm) :=
  ck (inb (x4 + (1 : Int32)) L) (ck (gK M x1 = 7) (bd (f_X7_life x1 (xs ((x4 + (1 : Int32))).toNatClampNeg) M) fun v2 M1 =>
  ck (inb (x4 + (1 : Int32)) L) (ck (gK M1 x2 = 8) (bd (f_X8_life x2 (xs ((x4 + (1 : Int32))).toNatClampNeg) M1) fun v4 M3 =>
  (if v2 = v4 then
    r M3
  else
    none)))))
set_option maxRecDepth 20000 in
set_option maxHeartbeats 4000000 in
theorem s_law_c21 {z : Zt} {b L : Nat} {xs : Nat → Int32} {K : Int32 → Mm → Prop} {rr : Option FieldType} (hz : Good z RL code 7 room_1 rr) (hG : GoodL z b L xs) (kk nn : Nat) (hk : kk + 20 ≤ 601024) (hn : nn + 3000 ≤ 7293034) {x1 x2 x3 : Nat} {x4 : Int32} {r : Mm → Option (Int32 × Mm)} (HR : ∀ M, Sim z 1559 [(0, .ref b), (1, .ref x1), (2, .ref x2), (3, .ref x3), (4, .int x4)] [] M (kk + 20) (nn + 3000) (r M) K) : ∀ M, Sim z 1047 [(0, .ref b), (1, .ref x1), (2, .ref x2), (3, .ref x3), (4, .int x4)] [] M kk nn (f_law_c21 xs L x1 x2 x3 x4 r M) K := by
  intro M
  unfold f_law_c21
  refine r_aload_n hz dL_law_1047 1 rfl ?_
  refine r_aload_n hz dL_law_1048 0 rfl ?_
  refine r_iload hz dL_law_1049 4 rfl ?_
  refine r_iconst (v := 1) hz dL_law_1051 rfl ?_
  refine r_iadd hz dL_law_1052 ?_
  refine r_sld hz hG dL_law_1053 ?_
  refine r_callVl (As := fun _ => [.int (xs ((x4 + (1 : Int32))).toNatClampNeg)]) cl7 hz (fun _ _ h => t_X7_life _ _ _ _ _ h) cal_X7_life dL_law_1054 wm_4_114 wm_4_115 wm_4_116 rfl rfl (Nat.le_of_ble_eq_true rfl) ⟨(Nat.le_of_ble_eq_true rfl), (Nat.le_of_ble_eq_true rfl)⟩ ⟨by show kk + 0 ≤ 601024; omega, by show nn + 0 ≤ 7293034; omega⟩ (fun v2 M1 => ?_)
  refine r_aload_n hz dL_law_1057 2 rfl ?_
  refine r_aload_n hz dL_law_1058 0 rfl ?_
  refine r_iload hz dL_law_1059 4 rfl ?_
  refine r_iconst (v := 1) hz dL_law_1061 rfl ?_
  refine r_iadd hz dL_law_1062 ?_
  refine r_sld hz hG dL_law_1063 ?_
  refine r_callVl (As := fun _ => [.int (xs ((x4 + (1 : Int32))).toNatClampNeg)]) cl8 hz (fun _ _ h => t_X8_life _ _ _ _ _ h) cal_X8_life dL_law_1064 wm_7_27 wm_7_28 wm_7_29 rfl rfl (Nat.le_of_ble_eq_true rfl) ⟨(Nat.le_of_ble_eq_true rfl), (Nat.le_of_ble_eq_true rfl)⟩ ⟨by show kk + 0 + 0 ≤ 601024; omega, by show nn + 0 + 0 ≤ 7293034; omega⟩ (fun v4 M3 => ?_)
  refine r_lcmp_eq (tgt := 1559) hz dL_law_1067 dL_law_1068 rfl ?_ ?_
  · refine r_cs (k' := kk + 20) (n' := nn + 3000) (by show kk + 0 + 0 ≤ kk + 20; omega) (by show nn + 0 + 0 ≤ nn + 3000; omega) ?_
    exact HR M3
  · refine r_iconst (v := 0) hz dL_law_1071 rfl ?_
    exact r_none
def f_law_c22 (xs : Nat → Int32) (L x1 x2 x3 : Nat) (x4 : Int32) (r : Mm → Option (Int32 × Mm)) (M : Mm) : Option (Int32 × Mm) :=
  ck (inb (x4 + (1 : Int32)) L) (ck (gK M x1 = 7) (bd (f_X7_half x1 (xs ((x4 + (1 : Int32))).toNatClampNeg) M) fun v2 M1 =>
  ck (inb (x4 + (1 : Int32)) L) (ck (gK M1 x2 = 8) (bd (f_X8_half x2 (xs ((x4 + (1 : Int32))).toNatClampNeg) M1) fun v4 M3 =>
  (if v2 = v4 then
    r M3
  else
    none)))))
set_option maxRecDepth 20000 in
set_option maxHeartbeats 4000000 in
theorem s_law_c22 {z : Zt} {b L : Nat} {xs : Nat → Int32} {K : Int32 → Mm → Prop} {rr : Option FieldType} (hz : Good z RL code 7 room_1 rr) (hG : GoodL z b L xs) (kk nn : Nat) (hk : kk + 20 ≤ 601024) (hn : nn + 3000 ≤ 7293034) {x1 x2 x3 : Nat} {x4 : Int32} {r : Mm → Option (Int32 × Mm)} (HR : ∀ M, Sim z 1559 [(0, .ref b), (1, .ref x1), (2, .ref x2), (3, .ref x3), (4, .int x4)] [] M (kk + 20) (nn + 3000) (r M) K) : ∀ M, Sim z 1073 [(0, .ref b), (1, .ref x1), (2, .ref x2), (3, .ref x3), (4, .int x4)] [] M kk nn (f_law_c22 xs L x1 x2 x3 x4 r M) K := by
  intro M
  unfold f_law_c22
  refine r_aload_n hz dL_law_1073 1 rfl ?_
  refine r_aload_n hz dL_law_1074 0 rfl ?_
  refine r_iload hz dL_law_1075 4 rfl ?_
  refine r_iconst (v := 1) hz dL_law_1077 rfl ?_
  refine r_iadd hz dL_law_1078 ?_
  refine r_sld hz hG dL_law_1079 ?_
  refine r_callVi (As := fun _ => [.int (xs ((x4 + (1 : Int32))).toNatClampNeg)]) cl7 hz (fun _ _ h => t_X7_half _ _ _ _ _ h) cal_X7_half dL_law_1080 wm_4_118 wm_4_119 wm_4_120 rfl rfl (Nat.le_of_ble_eq_true rfl) ⟨(Nat.le_of_ble_eq_true rfl), (Nat.le_of_ble_eq_true rfl)⟩ ⟨by show kk + 0 ≤ 601024; omega, by show nn + 0 ≤ 7293034; omega⟩ (fun v2 M1 => ?_)
  refine r_aload_n hz dL_law_1083 2 rfl ?_
  refine r_aload_n hz dL_law_1084 0 rfl ?_
  refine r_iload hz dL_law_1085 4 rfl ?_
  refine r_iconst (v := 1) hz dL_law_1087 rfl ?_
  refine r_iadd hz dL_law_1088 ?_
  refine r_sld hz hG dL_law_1089 ?_
  refine r_callVi (As := fun _ => [.int (xs ((x4 + (1 : Int32))).toNatClampNeg)]) cl8 hz (fun _ _ h => t_X8_half _ _ _ _ _ h) cal_X8_half dL_law_1090 wm_7_31 wm_7_32 wm_7_33 rfl rfl (Nat.le_of_ble_eq_true rfl) ⟨(Nat.le_of_ble_eq_true rfl), (Nat.le_of_ble_eq_true rfl)⟩ ⟨by show kk + 0 + 0 ≤ 601024; omega, by show nn + 0 + 0 ≤ 7293034; omega⟩ (fun v4 M3 => ?_)
  refine r_icmp_eq (tgt := 1559) hz dL_law_1093 rfl ?_ ?_
  · refine r_cs (k' := kk + 20) (n' := nn + 3000) (by show kk + 0 + 0 ≤ kk + 20; omega) (by show nn + 0 + 0 ≤ nn + 3000; omega) ?_
    exact HR M3
  · refine r_iconst (v := 0) hz dL_law_1096 rfl ?_
    exact r_none
def f_law_c23 (xs : Nat → Int32) (L x1 x2 x3 : Nat) (x4 : Int32) (r : Mm → Option (Int32 × Mm)) (M : Mm) : Option (Int32 × Mm) :=
  ck (inb (x4 + (1 : Int32)) L) (ck (inb (x4 + (2 : Int32)) L) (ck (gK M x1 = 7) (bd (f_X7_yields x1 (xs ((x4 + (1 : Int32))).toNatClampNeg) (xs ((x4 + (2 : Int32))).toNatClampNeg) M) fun v2 M1 =>
  ck (inb (x4 + (1 : Int32)) L) (ck (inb (x4 + (2 : Int32)) L) (ck (gK M1 x2 = 8) (bd (f_X8_yields x2 (xs ((x4 + (1 : Int32))).toNatClampNeg) (xs ((x4 + (2 : Int32))).toNatClampNeg) M1) fun v4 M3 =>
  (if v2 = v4 then
    r M3
  else
    none)))))))
set_option maxRecDepth 20000 in
set_option maxHeartbeats 4000000 in
theorem s_law_c23 {z : Zt} {b L : Nat} {xs : Nat → Int32} {K : Int32 → Mm → Prop} {rr : Option FieldType} (hz : Good z RL code 7 room_1 rr) (hG : GoodL z b L xs) (kk nn : Nat) (hk : kk + 20 ≤ 601024) (hn : nn + 3000 ≤ 7293034) {x1 x2 x3 : Nat} {x4 : Int32} {r : Mm → Option (Int32 × Mm)} (HR : ∀ M, Sim z 1559 [(0, .ref b), (1, .ref x1), (2, .ref x2), (3, .ref x3), (4, .int x4)] [] M (kk + 20) (nn + 3000) (r M) K) : ∀ M, Sim z 1098 [(0, .ref b), (1, .ref x1), (2, .ref x2), (3, .ref x3), (4, .int x4)] [] M kk nn (f_law_c23 xs L x1 x2 x3 x4 r M) K := by
  intro M
  unfold f_law_c23
  refine r_aload_n hz dL_law_1098 1 rfl ?_
  refine r_aload_n hz dL_law_1099 0 rfl ?_
  refine r_iload hz dL_law_1100 4 rfl ?_
  refine r_iconst (v := 1) hz dL_law_1102 rfl ?_
  refine r_iadd hz dL_law_1103 ?_
  refine r_sld hz hG dL_law_1104 ?_
  refine r_aload_n hz dL_law_1105 0 rfl ?_
  refine r_iload hz dL_law_1106 4 rfl ?_
  refine r_iconst (v := 2) hz dL_law_1108 rfl ?_
  refine r_iadd hz dL_law_1109 ?_
  refine r_sld hz hG dL_law_1110 ?_
  refine r_callVi (As := fun _ => [.int (xs ((x4 + (1 : Int32))).toNatClampNeg), .int (xs ((x4 + (2 : Int32))).toNatClampNeg)]) cl7 hz (fun _ _ h => t_X7_yields _ _ _ _ _ _ h) cal_X7_yields dL_law_1111 wm_4_126 wm_4_127 wm_4_128 rfl rfl (Nat.le_of_ble_eq_true rfl) ⟨(Nat.le_of_ble_eq_true rfl), (Nat.le_of_ble_eq_true rfl)⟩ ⟨by show kk + 0 ≤ 601024; omega, by show nn + 0 ≤ 7293034; omega⟩ (fun v2 M1 => ?_)
  refine r_aload_n hz dL_law_1114 2 rfl ?_
  refine r_aload_n hz dL_law_1115 0 rfl ?_
  refine r_iload hz dL_law_1116 4 rfl ?_
  refine r_iconst (v := 1) hz dL_law_1118 rfl ?_
  refine r_iadd hz dL_law_1119 ?_
  refine r_sld hz hG dL_law_1120 ?_
  refine r_aload_n hz dL_law_1121 0 rfl ?_
  refine r_iload hz dL_law_1122 4 rfl ?_
  refine r_iconst (v := 2) hz dL_law_1124 rfl ?_
  refine r_iadd hz dL_law_1125 ?_
  refine r_sld hz hG dL_law_1126 ?_
  refine r_callVi (As := fun _ => [.int (xs ((x4 + (1 : Int32))).toNatClampNeg), .int (xs ((x4 + (2 : Int32))).toNatClampNeg)]) cl8 hz (fun _ _ h => t_X8_yields _ _ _ _ _ _ h) cal_X8_yields dL_law_1127 wm_7_35 wm_7_36 wm_7_37 rfl rfl (Nat.le_of_ble_eq_true rfl) ⟨(Nat.le_of_ble_eq_true rfl), (Nat.le_of_ble_eq_true rfl)⟩ ⟨by show kk + 0 + 0 ≤ 601024; omega, by show nn + 0 + 0 ≤ 7293034; omega⟩ (fun v4 M3 => ?_)
  refine r_icmp_eq (tgt := 1559) hz dL_law_1130 rfl ?_ ?_
  · refine r_cs (k' := kk + 20) (n' := nn + 3000) (by show kk + 0 + 0 ≤ kk + 20; omega) (by show nn + 0 + 0 ≤ nn + 3000; omega) ?_
    exact HR M3
  · refine r_iconst (v := 0) hz dL_law_1133 rfl ?_
    exact r_none
def f_law_c24 (xs : Nat → Int32) (L x1 x2 x3 : Nat) (x4 : Int32) (r : Mm → Option (Int32 × Mm)) (M : Mm) : Option (Int32 × Mm) :=
  ck (inb (x4 + (1 : Int32)) L) (ck (inb (x4 + (2 : Int32)) L) (ck (inb (x4 + (3 : Int32)) L) (ck (gK M x1 = 7) (bd (f_X7_atLeast x1 (xs ((x4 + (1 : Int32))).toNatClampNeg) (xs ((x4 + (2 : Int32))).toNatClampNeg) (xs ((x4 + (3 : Int32))).toNatClampNeg) M) fun v2 M1 =>
  ck (inb (x4 + (1 : Int32)) L) (ck (inb (x4 + (2 : Int32)) L) (ck (inb (x4 + (3 : Int32)) L) (ck (gK M1 x2 = 8) (bd (f_X8_atLeast x2 (xs ((x4 + (1 : Int32))).toNatClampNeg) (xs ((x4 + (2 : Int32))).toNatClampNeg) (xs ((x4 + (3 : Int32))).toNatClampNeg) M1) fun v4 M3 =>
  (if v2 = v4 then
    r M3
  else
    none)))))))))
set_option maxRecDepth 20000 in
set_option maxHeartbeats 4000000 in
theorem s_law_c24 {z : Zt} {b L : Nat} {xs : Nat → Int32} {K : Int32 → Mm → Prop} {rr : Option FieldType} (hz : Good z RL code 7 room_1 rr) (hG : GoodL z b L xs) (kk nn : Nat) (hk : kk + 20 ≤ 601024) (hn : nn + 3000 ≤ 7293034) {x1 x2 x3 : Nat} {x4 : Int32} {r : Mm → Option (Int32 × Mm)} (HR : ∀ M, Sim z 1559 [(0, .ref b), (1, .ref x1), (2, .ref x2), (3, .ref x3), (4, .int x4)] [] M (kk + 20) (nn + 3000) (r M) K) : ∀ M, Sim z 1135 [(0, .ref b), (1, .ref x1), (2, .ref x2), (3, .ref x3), (4, .int x4)] [] M kk nn (f_law_c24 xs L x1 x2 x3 x4 r M) K := by
  intro M
  unfold f_law_c24
  refine r_aload_n hz dL_law_1135 1 rfl ?_
  refine r_aload_n hz dL_law_1136 0 rfl ?_
  refine r_iload hz dL_law_1137 4 rfl ?_
  refine r_iconst (v := 1) hz dL_law_1139 rfl ?_
  refine r_iadd hz dL_law_1140 ?_
  refine r_sld hz hG dL_law_1141 ?_
  refine r_aload_n hz dL_law_1142 0 rfl ?_
  refine r_iload hz dL_law_1143 4 rfl ?_
  refine r_iconst (v := 2) hz dL_law_1145 rfl ?_
  refine r_iadd hz dL_law_1146 ?_
  refine r_sld hz hG dL_law_1147 ?_
  refine r_aload_n hz dL_law_1148 0 rfl ?_
  refine r_iload hz dL_law_1149 4 rfl ?_
  refine r_iconst (v := 3) hz dL_law_1151 rfl ?_
  refine r_iadd hz dL_law_1152 ?_
  refine r_sld hz hG dL_law_1153 ?_
  refine r_callVl (As := fun _ => [.int (xs ((x4 + (1 : Int32))).toNatClampNeg), .int (xs ((x4 + (2 : Int32))).toNatClampNeg), .int (xs ((x4 + (3 : Int32))).toNatClampNeg)]) cl7 hz (fun _ _ h => t_X7_atLeast _ _ _ _ _ _ _ h) cal_X7_atLeast dL_law_1154 wm_4_134 wm_4_135 wm_4_136 rfl rfl (Nat.le_of_ble_eq_true rfl) ⟨(Nat.le_of_ble_eq_true rfl), (Nat.le_of_ble_eq_true rfl)⟩ ⟨by show kk + 0 ≤ 601024; omega, by show nn + 0 ≤ 7293034; omega⟩ (fun v2 M1 => ?_)
  refine r_aload_n hz dL_law_1157 2 rfl ?_
  refine r_aload_n hz dL_law_1158 0 rfl ?_
  refine r_iload hz dL_law_1159 4 rfl ?_
  refine r_iconst (v := 1) hz dL_law_1161 rfl ?_
  refine r_iadd hz dL_law_1162 ?_
  refine r_sld hz hG dL_law_1163 ?_
  refine r_aload_n hz dL_law_1164 0 rfl ?_
  refine r_iload hz dL_law_1165 4 rfl ?_
  refine r_iconst (v := 2) hz dL_law_1167 rfl ?_
  refine r_iadd hz dL_law_1168 ?_
  refine r_sld hz hG dL_law_1169 ?_
  refine r_aload_n hz dL_law_1170 0 rfl ?_
  refine r_iload hz dL_law_1171 4 rfl ?_
  refine r_iconst (v := 3) hz dL_law_1173 rfl ?_
  refine r_iadd hz dL_law_1174 ?_
  refine r_sld hz hG dL_law_1175 ?_
  refine r_callVl (As := fun _ => [.int (xs ((x4 + (1 : Int32))).toNatClampNeg), .int (xs ((x4 + (2 : Int32))).toNatClampNeg), .int (xs ((x4 + (3 : Int32))).toNatClampNeg)]) cl8 hz (fun _ _ h => t_X8_atLeast _ _ _ _ _ _ _ h) cal_X8_atLeast dL_law_1176 wm_7_39 wm_7_40 wm_7_41 rfl rfl (Nat.le_of_ble_eq_true rfl) ⟨(Nat.le_of_ble_eq_true rfl), (Nat.le_of_ble_eq_true rfl)⟩ ⟨by show kk + 0 + 0 ≤ 601024; omega, by show nn + 0 + 0 ≤ 7293034; omega⟩ (fun v4 M3 => ?_)
  refine r_lcmp_eq (tgt := 1559) hz dL_law_1179 dL_law_1180 rfl ?_ ?_
  · refine r_cs (k' := kk + 20) (n' := nn + 3000) (by show kk + 0 + 0 ≤ kk + 20; omega) (by show nn + 0 + 0 ≤ nn + 3000; omega) ?_
    exact HR M3
  · refine r_iconst (v := 0) hz dL_law_1183 rfl ?_
    exact r_none
def f_law_c25 (xs : Nat → Int32) (L x1 x2 x3 : Nat) (x4 : Int32) (r : Mm → Option (Int32 × Mm)) (M : Mm) : Option (Int32 × Mm) :=
  ck (inb (x4 + (1 : Int32)) L) (ck (inb (x4 + (2 : Int32)) L) (ck (gK M x1 = 7) (bd (f_X7_lasting x1 (xs ((x4 + (1 : Int32))).toNatClampNeg) (xs ((x4 + (2 : Int32))).toNatClampNeg) M) fun v2 M1 =>
  ck (inb (x4 + (1 : Int32)) L) (ck (inb (x4 + (2 : Int32)) L) (ck (gK M1 x2 = 8) (bd (f_X8_lasting x2 (xs ((x4 + (1 : Int32))).toNatClampNeg) (xs ((x4 + (2 : Int32))).toNatClampNeg) M1) fun v4 M3 =>
  (if v2 = v4 then
    r M3
  else
    none)))))))
set_option maxRecDepth 20000 in
set_option maxHeartbeats 4000000 in
theorem s_law_c25 {z : Zt} {b L : Nat} {xs : Nat → Int32} {K : Int32 → Mm → Prop} {rr : Option FieldType} (hz : Good z RL code 7 room_1 rr) (hG : GoodL z b L xs) (kk nn : Nat) (hk : kk + 20 ≤ 601024) (hn : nn + 3000 ≤ 7293034) {x1 x2 x3 : Nat} {x4 : Int32} {r : Mm → Option (Int32 × Mm)} (HR : ∀ M, Sim z 1559 [(0, .ref b), (1, .ref x1), (2, .ref x2), (3, .ref x3), (4, .int x4)] [] M (kk + 20) (nn + 3000) (r M) K) : ∀ M, Sim z 1185 [(0, .ref b), (1, .ref x1), (2, .ref x2), (3, .ref x3), (4, .int x4)] [] M kk nn (f_law_c25 xs L x1 x2 x3 x4 r M) K := by
  intro M
  unfold f_law_c25
  refine r_aload_n hz dL_law_1185 1 rfl ?_
  refine r_aload_n hz dL_law_1186 0 rfl ?_
  refine r_iload hz dL_law_1187 4 rfl ?_
  refine r_iconst (v := 1) hz dL_law_1189 rfl ?_
  refine r_iadd hz dL_law_1190 ?_
  refine r_sld hz hG dL_law_1191 ?_
  refine r_aload_n hz dL_law_1192 0 rfl ?_
  refine r_iload hz dL_law_1193 4 rfl ?_
  refine r_iconst (v := 2) hz dL_law_1195 rfl ?_
  refine r_iadd hz dL_law_1196 ?_
  refine r_sld hz hG dL_law_1197 ?_
  refine r_callVl (As := fun _ => [.int (xs ((x4 + (1 : Int32))).toNatClampNeg), .int (xs ((x4 + (2 : Int32))).toNatClampNeg)]) cl7 hz (fun _ _ h => t_X7_lasting _ _ _ _ _ _ h) cal_X7_lasting dL_law_1198 wm_4_142 wm_4_143 wm_4_144 rfl rfl (Nat.le_of_ble_eq_true rfl) ⟨(Nat.le_of_ble_eq_true rfl), (Nat.le_of_ble_eq_true rfl)⟩ ⟨by show kk + 0 ≤ 601024; omega, by show nn + 0 ≤ 7293034; omega⟩ (fun v2 M1 => ?_)
  refine r_aload_n hz dL_law_1201 2 rfl ?_
  refine r_aload_n hz dL_law_1202 0 rfl ?_
  refine r_iload hz dL_law_1203 4 rfl ?_
  refine r_iconst (v := 1) hz dL_law_1205 rfl ?_
  refine r_iadd hz dL_law_1206 ?_
  refine r_sld hz hG dL_law_1207 ?_
  refine r_aload_n hz dL_law_1208 0 rfl ?_
  refine r_iload hz dL_law_1209 4 rfl ?_
  refine r_iconst (v := 2) hz dL_law_1211 rfl ?_
  refine r_iadd hz dL_law_1212 ?_
  refine r_sld hz hG dL_law_1213 ?_
  refine r_callVl (As := fun _ => [.int (xs ((x4 + (1 : Int32))).toNatClampNeg), .int (xs ((x4 + (2 : Int32))).toNatClampNeg)]) cl8 hz (fun _ _ h => t_X8_lasting _ _ _ _ _ _ h) cal_X8_lasting dL_law_1214 wm_7_47 wm_7_48 wm_7_49 rfl rfl (Nat.le_of_ble_eq_true rfl) ⟨(Nat.le_of_ble_eq_true rfl), (Nat.le_of_ble_eq_true rfl)⟩ ⟨by show kk + 0 + 0 ≤ 601024; omega, by show nn + 0 + 0 ≤ 7293034; omega⟩ (fun v4 M3 => ?_)
  refine r_lcmp_eq (tgt := 1559) hz dL_law_1217 dL_law_1218 rfl ?_ ?_
  · refine r_cs (k' := kk + 20) (n' := nn + 3000) (by show kk + 0 + 0 ≤ kk + 20; omega) (by show nn + 0 + 0 ≤ nn + 3000; omega) ?_
    exact HR M3
  · refine r_iconst (v := 0) hz dL_law_1221 rfl ?_
    exact r_none
def f_law_c26 (xs : Nat → Int32) (L x1 x2 x3 : Nat) (x4 : Int32) (r : Mm → Option (Int32 × Mm)) (M : Mm) : Option (Int32 × Mm) :=
  ck (gK M x1 = 7) (bd (f_X7_below x1 M) fun v2 M1 =>
  ck (gK M1 x2 = 8) (bd (f_X8_below x2 M1) fun v4 M3 =>
  (if v2 = v4 then
    r M3
  else
    none)))
set_option maxRecDepth 20000 in
set_option maxHeartbeats 4000000 in
theorem s_law_c26 {z : Zt} {b L : Nat} {xs : Nat → Int32} {K : Int32 → Mm → Prop} {rr : Option FieldType} (hz : Good z RL code 7 room_1 rr) (hG : GoodL z b L xs) (kk nn : Nat) (hk : kk + 20 ≤ 601024) (hn : nn + 3000 ≤ 7293034) {x1 x2 x3 : Nat} {x4 : Int32} {r : Mm → Option (Int32 × Mm)} (HR : ∀ M, Sim z 1559 [(0, .ref b), (1, .ref x1), (2, .ref x2), (3, .ref x3), (4, .int x4)] [] M (kk + 20) (nn + 3000) (r M) K) : ∀ M, Sim z 1223 [(0, .ref b), (1, .ref x1), (2, .ref x2), (3, .ref x3), (4, .int x4)] [] M kk nn (f_law_c26 xs L x1 x2 x3 x4 r M) K := by
  intro M
  unfold f_law_c26
  refine r_aload_n hz dL_law_1223 1 rfl ?_
  refine r_callVl (As := fun _ => []) cl7 hz (fun _ _ h => t_X7_below _ _ _ _ h) cal_X7_below dL_law_1224 wm_4_146 wm_4_147 wm_4_148 rfl rfl (Nat.le_of_ble_eq_true rfl) ⟨(Nat.le_of_ble_eq_true rfl), (Nat.le_of_ble_eq_true rfl)⟩ ⟨by show kk + 0 ≤ 601024; omega, by show nn + 0 ≤ 7293034; omega⟩ (fun v2 M1 => ?_)
  refine r_aload_n hz dL_law_1227 2 rfl ?_
  refine r_callVl (As := fun _ => []) cl8 hz (fun _ _ h => t_X8_below _ _ _ _ h) cal_X8_below dL_law_1228 wm_6_229 wm_6_230 wm_6_231 rfl rfl (Nat.le_of_ble_eq_true rfl) ⟨(Nat.le_of_ble_eq_true rfl), (Nat.le_of_ble_eq_true rfl)⟩ ⟨by show kk + 0 + 0 ≤ 601024; omega, by show nn + 0 + 0 ≤ 7293034; omega⟩ (fun v4 M3 => ?_)
  refine r_lcmp_eq (tgt := 1559) hz dL_law_1231 dL_law_1232 rfl ?_ ?_
  · refine r_cs (k' := kk + 20) (n' := nn + 3000) (by show kk + 0 + 0 ≤ kk + 20; omega) (by show nn + 0 + 0 ≤ nn + 3000; omega) ?_
    exact HR M3
  · refine r_iconst (v := 0) hz dL_law_1235 rfl ?_
    exact r_none
def f_law_c27 (xs : Nat → Int32) (L x1 x2 x3 : Nat) (x4 : Int32) (r : Mm → Option (Int32 × Mm)) (M : Mm) : Option (Int32 × Mm) :=
  ck (inb (x4 + (1 : Int32)) L) (ck (inb (x4 + (2 : Int32)) L) (ck (inb (x4 + (3 : Int32)) L) (ck (inb (x4 + (4 : Int32)) L) (ck (gK M x1 = 7) (bd (f_X7_ifPrice x1 (xs ((x4 + (1 : Int32))).toNatClampNeg) (xs ((x4 + (2 : Int32))).toNatClampNeg) (xs ((x4 + (3 : Int32))).toNatClampNeg) (xs ((x4 + (4 : Int32))).toNatClampNeg) M) fun v2 M1 =>
  ck (inb (x4 + (1 : Int32)) L) (ck (inb (x4 + (2 : Int32)) L) (ck (inb (x4 + (3 : Int32)) L) (ck (inb (x4 + (4 : Int32)) L) (ck (gK M1 x2 = 8) (bd (f_X8_ifPrice x2 (xs ((x4 + (1 : Int32))).toNatClampNeg) (xs ((x4 + (2 : Int32))).toNatClampNeg) (xs ((x4 + (3 : Int32))).toNatClampNeg) (xs ((x4 + (4 : Int32))).toNatClampNeg) M1) fun v4 M3 =>
  (if v2 = v4 then
    r M3
  else
    none)))))))))))
set_option maxRecDepth 20000 in
set_option maxHeartbeats 4000000 in
theorem s_law_c27 {z : Zt} {b L : Nat} {xs : Nat → Int32} {K : Int32 → Mm → Prop} {rr : Option FieldType} (hz : Good z RL code 7 room_1 rr) (hG : GoodL z b L xs) (kk nn : Nat) (hk : kk + 20 ≤ 601024) (hn : nn + 3000 ≤ 7293034) {x1 x2 x3 : Nat} {x4 : Int32} {r : Mm → Option (Int32 × Mm)} (HR : ∀ M, Sim z 1559 [(0, .ref b), (1, .ref x1), (2, .ref x2), (3, .ref x3), (4, .int x4)] [] M (kk + 20) (nn + 3000) (r M) K) : ∀ M, Sim z 1237 [(0, .ref b), (1, .ref x1), (2, .ref x2), (3, .ref x3), (4, .int x4)] [] M kk nn (f_law_c27 xs L x1 x2 x3 x4 r M) K := by
  intro M
  unfold f_law_c27
  refine r_aload_n hz dL_law_1237 1 rfl ?_
  refine r_aload_n hz dL_law_1238 0 rfl ?_
  refine r_iload hz dL_law_1239 4 rfl ?_
  refine r_iconst (v := 1) hz dL_law_1241 rfl ?_
  refine r_iadd hz dL_law_1242 ?_
  refine r_sld hz hG dL_law_1243 ?_
  refine r_aload_n hz dL_law_1244 0 rfl ?_
  refine r_iload hz dL_law_1245 4 rfl ?_
  refine r_iconst (v := 2) hz dL_law_1247 rfl ?_
  refine r_iadd hz dL_law_1248 ?_
  refine r_sld hz hG dL_law_1249 ?_
  refine r_aload_n hz dL_law_1250 0 rfl ?_
  refine r_iload hz dL_law_1251 4 rfl ?_
  refine r_iconst (v := 3) hz dL_law_1253 rfl ?_
  refine r_iadd hz dL_law_1254 ?_
  refine r_sld hz hG dL_law_1255 ?_
  refine r_aload_n hz dL_law_1256 0 rfl ?_
  refine r_iload hz dL_law_1257 4 rfl ?_
  refine r_iconst (v := 4) hz dL_law_1259 rfl ?_
  refine r_iadd hz dL_law_1260 ?_
  refine r_sld hz hG dL_law_1261 ?_
  refine r_callVi (As := fun _ => [.int (xs ((x4 + (1 : Int32))).toNatClampNeg), .int (xs ((x4 + (2 : Int32))).toNatClampNeg), .int (xs ((x4 + (3 : Int32))).toNatClampNeg), .int (xs ((x4 + (4 : Int32))).toNatClampNeg)]) cl7 hz (fun _ _ h => t_X7_ifPrice _ _ _ _ _ _ _ _ h) cal_X7_ifPrice dL_law_1262 wm_4_150 wm_4_151 wm_4_152 rfl rfl (Nat.le_of_ble_eq_true rfl) ⟨(Nat.le_of_ble_eq_true rfl), (Nat.le_of_ble_eq_true rfl)⟩ ⟨by show kk + 0 ≤ 601024; omega, by show nn + 0 ≤ 7293034; omega⟩ (fun v2 M1 => ?_)
  refine r_aload_n hz dL_law_1265 2 rfl ?_
  refine r_aload_n hz dL_law_1266 0 rfl ?_
  refine r_iload hz dL_law_1267 4 rfl ?_
  refine r_iconst (v := 1) hz dL_law_1269 rfl ?_
  refine r_iadd hz dL_law_1270 ?_
  refine r_sld hz hG dL_law_1271 ?_
  refine r_aload_n hz dL_law_1272 0 rfl ?_
  refine r_iload hz dL_law_1273 4 rfl ?_
  refine r_iconst (v := 2) hz dL_law_1275 rfl ?_
  refine r_iadd hz dL_law_1276 ?_
  refine r_sld hz hG dL_law_1277 ?_
  refine r_aload_n hz dL_law_1278 0 rfl ?_
  refine r_iload hz dL_law_1279 4 rfl ?_
  refine r_iconst (v := 3) hz dL_law_1281 rfl ?_
  refine r_iadd hz dL_law_1282 ?_
  refine r_sld hz hG dL_law_1283 ?_
  refine r_aload_n hz dL_law_1284 0 rfl ?_
  refine r_iload hz dL_law_1285 4 rfl ?_
  refine r_iconst (v := 4) hz dL_law_1287 rfl ?_
  refine r_iadd hz dL_law_1288 ?_
  refine r_sld hz hG dL_law_1289 ?_
  refine r_callVi (As := fun _ => [.int (xs ((x4 + (1 : Int32))).toNatClampNeg), .int (xs ((x4 + (2 : Int32))).toNatClampNeg), .int (xs ((x4 + (3 : Int32))).toNatClampNeg), .int (xs ((x4 + (4 : Int32))).toNatClampNeg)]) cl8 hz (fun _ _ h => t_X8_ifPrice _ _ _ _ _ _ _ _ h) cal_X8_ifPrice dL_law_1290 wm_7_51 wm_7_52 wm_7_53 rfl rfl (Nat.le_of_ble_eq_true rfl) ⟨(Nat.le_of_ble_eq_true rfl), (Nat.le_of_ble_eq_true rfl)⟩ ⟨by show kk + 0 + 0 ≤ 601024; omega, by show nn + 0 + 0 ≤ 7293034; omega⟩ (fun v4 M3 => ?_)
  refine r_icmp_eq (tgt := 1559) hz dL_law_1293 rfl ?_ ?_
  · refine r_cs (k' := kk + 20) (n' := nn + 3000) (by show kk + 0 + 0 ≤ kk + 20; omega) (by show nn + 0 + 0 ≤ nn + 3000; omega) ?_
    exact HR M3
  · refine r_iconst (v := 0) hz dL_law_1296 rfl ?_
    exact r_none
def f_law_c28 (xs : Nat → Int32) (L x1 x2 x3 : Nat) (x4 : Int32) (r : Mm → Option (Int32 × Mm)) (M : Mm) : Option (Int32 × Mm) :=
  ck (inb (x4 + (1 : Int32)) L) (ck (inb (x4 + (2 : Int32)) L) (ck (gK M x1 = 7) (bd (f_X7_needs x1 (xs ((x4 + (1 : Int32))).toNatClampNeg) (xs ((x4 + (2 : Int32))).toNatClampNeg) M) fun v2 M1 =>
  ck (inb (x4 + (1 : Int32)) L) (ck (inb (x4 + (2 : Int32)) L) (ck (gK M1 x2 = 8) (bd (f_X8_needs x2 (xs ((x4 + (1 : Int32))).toNatClampNeg) (xs ((x4 + (2 : Int32))).toNatClampNeg) M1) fun v4 M3 =>
  (if v2 = v4 then
    r M3
  else
    none)))))))
set_option maxRecDepth 20000 in
set_option maxHeartbeats 4000000 in
theorem s_law_c28 {z : Zt} {b L : Nat} {xs : Nat → Int32} {K : Int32 → Mm → Prop} {rr : Option FieldType} (hz : Good z RL code 7 room_1 rr) (hG : GoodL z b L xs) (kk nn : Nat) (hk : kk + 20 ≤ 601024) (hn : nn + 3000 ≤ 7293034) {x1 x2 x3 : Nat} {x4 : Int32} {r : Mm → Option (Int32 × Mm)} (HR : ∀ M, Sim z 1559 [(0, .ref b), (1, .ref x1), (2, .ref x2), (3, .ref x3), (4, .int x4)] [] M (kk + 20) (nn + 3000) (r M) K) : ∀ M, Sim z 1298 [(0, .ref b), (1, .ref x1), (2, .ref x2), (3, .ref x3), (4, .int x4)] [] M kk nn (f_law_c28 xs L x1 x2 x3 x4 r M) K := by
  intro M
  unfold f_law_c28
  refine r_aload_n hz dL_law_1298 1 rfl ?_
  refine r_aload_n hz dL_law_1299 0 rfl ?_
  refine r_iload hz dL_law_1300 4 rfl ?_
  refine r_iconst (v := 1) hz dL_law_1302 rfl ?_
  refine r_iadd hz dL_law_1303 ?_
  refine r_sld hz hG dL_law_1304 ?_
  refine r_aload_n hz dL_law_1305 0 rfl ?_
  refine r_iload hz dL_law_1306 4 rfl ?_
  refine r_iconst (v := 2) hz dL_law_1308 rfl ?_
  refine r_iadd hz dL_law_1309 ?_
  refine r_sld hz hG dL_law_1310 ?_
  refine r_callVi (As := fun _ => [.int (xs ((x4 + (1 : Int32))).toNatClampNeg), .int (xs ((x4 + (2 : Int32))).toNatClampNeg)]) cl7 hz (fun _ _ h => t_X7_needs _ _ _ _ _ _ h) cal_X7_needs dL_law_1311 wm_4_156 wm_4_157 wm_4_158 rfl rfl (Nat.le_of_ble_eq_true rfl) ⟨(Nat.le_of_ble_eq_true rfl), (Nat.le_of_ble_eq_true rfl)⟩ ⟨by show kk + 0 ≤ 601024; omega, by show nn + 0 ≤ 7293034; omega⟩ (fun v2 M1 => ?_)
  refine r_aload_n hz dL_law_1314 2 rfl ?_
  refine r_aload_n hz dL_law_1315 0 rfl ?_
  refine r_iload hz dL_law_1316 4 rfl ?_
  refine r_iconst (v := 1) hz dL_law_1318 rfl ?_
  refine r_iadd hz dL_law_1319 ?_
  refine r_sld hz hG dL_law_1320 ?_
  refine r_aload_n hz dL_law_1321 0 rfl ?_
  refine r_iload hz dL_law_1322 4 rfl ?_
  refine r_iconst (v := 2) hz dL_law_1324 rfl ?_
  refine r_iadd hz dL_law_1325 ?_
  refine r_sld hz hG dL_law_1326 ?_
  refine r_callVi (As := fun _ => [.int (xs ((x4 + (1 : Int32))).toNatClampNeg), .int (xs ((x4 + (2 : Int32))).toNatClampNeg)]) cl8 hz (fun _ _ h => t_X8_needs _ _ _ _ _ _ h) cal_X8_needs dL_law_1327 wm_7_55 wm_7_56 wm_7_57 rfl rfl (Nat.le_of_ble_eq_true rfl) ⟨(Nat.le_of_ble_eq_true rfl), (Nat.le_of_ble_eq_true rfl)⟩ ⟨by show kk + 0 + 0 ≤ 601024; omega, by show nn + 0 + 0 ≤ 7293034; omega⟩ (fun v4 M3 => ?_)
  refine r_icmp_eq (tgt := 1559) hz dL_law_1330 rfl ?_ ?_
  · refine r_cs (k' := kk + 20) (n' := nn + 3000) (by show kk + 0 + 0 ≤ kk + 20; omega) (by show nn + 0 + 0 ≤ nn + 3000; omega) ?_
    exact HR M3
  · refine r_iconst (v := 0) hz dL_law_1333 rfl ?_
    exact r_none
def f_law_c29 (xs : Nat → Int32) (L x1 x2 x3 : Nat) (x4 : Int32) (r : Mm → Option (Int32 × Mm)) (M : Mm) : Option (Int32 × Mm) :=
  ck (inb (x4 + (1 : Int32)) L) (ck (inb (x4 + (2 : Int32)) L) (ck (inb (x4 + (3 : Int32)) L) (ck (gK M x1 = 7) (bd (f_X7_lot x1 (xs ((x4 + (1 : Int32))).toNatClampNeg) (xs ((x4 + (2 : Int32))).toNatClampNeg) (xs ((x4 + (3 : Int32))).toNatClampNeg) M) fun v2 M1 =>
  ck (inb (x4 + (1 : Int32)) L) (ck (inb (x4 + (2 : Int32)) L) (ck (inb (x4 + (3 : Int32)) L) (ck (gK M1 x2 = 8) (bd (f_X8_lot x2 (xs ((x4 + (1 : Int32))).toNatClampNeg) (xs ((x4 + (2 : Int32))).toNatClampNeg) (xs ((x4 + (3 : Int32))).toNatClampNeg) M1) fun v4 M3 =>
  (if v2 = v4 then
    r M3
  else
    none)))))))))
set_option maxRecDepth 20000 in
set_option maxHeartbeats 4000000 in
theorem s_law_c29 {z : Zt} {b L : Nat} {xs : Nat → Int32} {K : Int32 → Mm → Prop} {rr : Option FieldType} (hz : Good z RL code 7 room_1 rr) (hG : GoodL z b L xs) (kk nn : Nat) (hk : kk + 20 ≤ 601024) (hn : nn + 3000 ≤ 7293034) {x1 x2 x3 : Nat} {x4 : Int32} {r : Mm → Option (Int32 × Mm)} (HR : ∀ M, Sim z 1559 [(0, .ref b), (1, .ref x1), (2, .ref x2), (3, .ref x3), (4, .int x4)] [] M (kk + 20) (nn + 3000) (r M) K) : ∀ M, Sim z 1335 [(0, .ref b), (1, .ref x1), (2, .ref x2), (3, .ref x3), (4, .int x4)] [] M kk nn (f_law_c29 xs L x1 x2 x3 x4 r M) K := by
  intro M
  unfold f_law_c29
  refine r_aload_n hz dL_law_1335 1 rfl ?_
  refine r_aload_n hz dL_law_1336 0 rfl ?_
  refine r_iload hz dL_law_1337 4 rfl ?_
  refine r_iconst (v := 1) hz dL_law_1339 rfl ?_
  refine r_iadd hz dL_law_1340 ?_
  refine r_sld hz hG dL_law_1341 ?_
  refine r_aload_n hz dL_law_1342 0 rfl ?_
  refine r_iload hz dL_law_1343 4 rfl ?_
  refine r_iconst (v := 2) hz dL_law_1345 rfl ?_
  refine r_iadd hz dL_law_1346 ?_
  refine r_sld hz hG dL_law_1347 ?_
  refine r_aload_n hz dL_law_1348 0 rfl ?_
  refine r_iload hz dL_law_1349 4 rfl ?_
  refine r_iconst (v := 3) hz dL_law_1351 rfl ?_
  refine r_iadd hz dL_law_1352 ?_
  refine r_sld hz hG dL_law_1353 ?_
  refine r_callVi (As := fun _ => [.int (xs ((x4 + (1 : Int32))).toNatClampNeg), .int (xs ((x4 + (2 : Int32))).toNatClampNeg), .int (xs ((x4 + (3 : Int32))).toNatClampNeg)]) cl7 hz (fun _ _ h => t_X7_lot _ _ _ _ _ _ _ h) cal_X7_lot dL_law_1354 wm_4_166 wm_4_167 wm_4_168 rfl rfl (Nat.le_of_ble_eq_true rfl) ⟨(Nat.le_of_ble_eq_true rfl), (Nat.le_of_ble_eq_true rfl)⟩ ⟨by show kk + 0 ≤ 601024; omega, by show nn + 0 ≤ 7293034; omega⟩ (fun v2 M1 => ?_)
  refine r_aload_n hz dL_law_1357 2 rfl ?_
  refine r_aload_n hz dL_law_1358 0 rfl ?_
  refine r_iload hz dL_law_1359 4 rfl ?_
  refine r_iconst (v := 1) hz dL_law_1361 rfl ?_
  refine r_iadd hz dL_law_1362 ?_
  refine r_sld hz hG dL_law_1363 ?_
  refine r_aload_n hz dL_law_1364 0 rfl ?_
  refine r_iload hz dL_law_1365 4 rfl ?_
  refine r_iconst (v := 2) hz dL_law_1367 rfl ?_
  refine r_iadd hz dL_law_1368 ?_
  refine r_sld hz hG dL_law_1369 ?_
  refine r_aload_n hz dL_law_1370 0 rfl ?_
  refine r_iload hz dL_law_1371 4 rfl ?_
  refine r_iconst (v := 3) hz dL_law_1373 rfl ?_
  refine r_iadd hz dL_law_1374 ?_
  refine r_sld hz hG dL_law_1375 ?_
  refine r_callVi (As := fun _ => [.int (xs ((x4 + (1 : Int32))).toNatClampNeg), .int (xs ((x4 + (2 : Int32))).toNatClampNeg), .int (xs ((x4 + (3 : Int32))).toNatClampNeg)]) cl8 hz (fun _ _ h => t_X8_lot _ _ _ _ _ _ _ h) cal_X8_lot dL_law_1376 wm_7_59 wm_7_60 wm_7_61 rfl rfl (Nat.le_of_ble_eq_true rfl) ⟨(Nat.le_of_ble_eq_true rfl), (Nat.le_of_ble_eq_true rfl)⟩ ⟨by show kk + 0 + 0 ≤ 601024; omega, by show nn + 0 + 0 ≤ 7293034; omega⟩ (fun v4 M3 => ?_)
  refine r_icmp_eq (tgt := 1559) hz dL_law_1379 rfl ?_ ?_
  · refine r_cs (k' := kk + 20) (n' := nn + 3000) (by show kk + 0 + 0 ≤ kk + 20; omega) (by show nn + 0 + 0 ≤ nn + 3000; omega) ?_
    exact HR M3
  · refine r_iconst (v := 0) hz dL_law_1382 rfl ?_
    exact r_none
def f_law_c30 (xs : Nat → Int32) (L x1 x2 x3 : Nat) (x4 : Int32) (r : Mm → Option (Int32 × Mm)) (M : Mm) : Option (Int32 × Mm) :=
  ck (inb (x4 + (1 : Int32)) L) (ck (inb (x4 + (2 : Int32)) L) (ck (inb (x4 + (3 : Int32)) L) (ck (gK M x1 = 7) (bd (f_X7_replayed x1 (xs ((x4 + (1 : Int32))).toNatClampNeg) (xs ((x4 + (2 : Int32))).toNatClampNeg) (xs ((x4 + (3 : Int32))).toNatClampNeg) M) fun v2 M1 =>
  ck (inb (x4 + (1 : Int32)) L) (ck (inb (x4 + (2 : Int32)) L) (ck (inb (x4 + (3 : Int32)) L) (ck (gK M1 x2 = 8) (bd (f_X8_replayed x2 (xs ((x4 + (1 : Int32))).toNatClampNeg) (xs ((x4 + (2 : Int32))).toNatClampNeg) (xs ((x4 + (3 : Int32))).toNatClampNeg) M1) fun v4 M3 =>
  (if v2 = v4 then
    r M3
  else
    none)))))))))
set_option maxRecDepth 20000 in
set_option maxHeartbeats 4000000 in
theorem s_law_c30 {z : Zt} {b L : Nat} {xs : Nat → Int32} {K : Int32 → Mm → Prop} {rr : Option FieldType} (hz : Good z RL code 7 room_1 rr) (hG : GoodL z b L xs) (kk nn : Nat) (hk : kk + 20 ≤ 601024) (hn : nn + 3000 ≤ 7293034) {x1 x2 x3 : Nat} {x4 : Int32} {r : Mm → Option (Int32 × Mm)} (HR : ∀ M, Sim z 1559 [(0, .ref b), (1, .ref x1), (2, .ref x2), (3, .ref x3), (4, .int x4)] [] M (kk + 20) (nn + 3000) (r M) K) : ∀ M, Sim z 1384 [(0, .ref b), (1, .ref x1), (2, .ref x2), (3, .ref x3), (4, .int x4)] [] M kk nn (f_law_c30 xs L x1 x2 x3 x4 r M) K := by
  intro M
  unfold f_law_c30
  refine r_aload_n hz dL_law_1384 1 rfl ?_
  refine r_aload_n hz dL_law_1385 0 rfl ?_
  refine r_iload hz dL_law_1386 4 rfl ?_
  refine r_iconst (v := 1) hz dL_law_1388 rfl ?_
  refine r_iadd hz dL_law_1389 ?_
  refine r_sld hz hG dL_law_1390 ?_
  refine r_aload_n hz dL_law_1391 0 rfl ?_
  refine r_iload hz dL_law_1392 4 rfl ?_
  refine r_iconst (v := 2) hz dL_law_1394 rfl ?_
  refine r_iadd hz dL_law_1395 ?_
  refine r_sld hz hG dL_law_1396 ?_
  refine r_aload_n hz dL_law_1397 0 rfl ?_
  refine r_iload hz dL_law_1398 4 rfl ?_
  refine r_iconst (v := 3) hz dL_law_1400 rfl ?_
  refine r_iadd hz dL_law_1401 ?_
  refine r_sld hz hG dL_law_1402 ?_
  refine r_callVi (As := fun _ => [.int (xs ((x4 + (1 : Int32))).toNatClampNeg), .int (xs ((x4 + (2 : Int32))).toNatClampNeg), .int (xs ((x4 + (3 : Int32))).toNatClampNeg)]) cl7 hz (fun _ _ h => t_X7_replayed _ _ _ _ _ _ _ h) cal_X7_replayed dL_law_1403 wm_4_182 wm_4_183 wm_4_184 rfl rfl (Nat.le_of_ble_eq_true rfl) ⟨(Nat.le_of_ble_eq_true rfl), (Nat.le_of_ble_eq_true rfl)⟩ ⟨by show kk + 0 ≤ 601024; omega, by show nn + 0 ≤ 7293034; omega⟩ (fun v2 M1 => ?_)
  refine r_aload_n hz dL_law_1406 2 rfl ?_
  refine r_aload_n hz dL_law_1407 0 rfl ?_
  refine r_iload hz dL_law_1408 4 rfl ?_
  refine r_iconst (v := 1) hz dL_law_1410 rfl ?_
  refine r_iadd hz dL_law_1411 ?_
  refine r_sld hz hG dL_law_1412 ?_
  refine r_aload_n hz dL_law_1413 0 rfl ?_
  refine r_iload hz dL_law_1414 4 rfl ?_
  refine r_iconst (v := 2) hz dL_law_1416 rfl ?_
  refine r_iadd hz dL_law_1417 ?_
  refine r_sld hz hG dL_law_1418 ?_
  refine r_aload_n hz dL_law_1419 0 rfl ?_
  refine r_iload hz dL_law_1420 4 rfl ?_
  refine r_iconst (v := 3) hz dL_law_1422 rfl ?_
  refine r_iadd hz dL_law_1423 ?_
  refine r_sld hz hG dL_law_1424 ?_
  refine r_callVi (As := fun _ => [.int (xs ((x4 + (1 : Int32))).toNatClampNeg), .int (xs ((x4 + (2 : Int32))).toNatClampNeg), .int (xs ((x4 + (3 : Int32))).toNatClampNeg)]) cl8 hz (fun _ _ h => t_X8_replayed _ _ _ _ _ _ _ h) cal_X8_replayed dL_law_1425 wm_7_79 wm_7_80 wm_7_81 rfl rfl (Nat.le_of_ble_eq_true rfl) ⟨(Nat.le_of_ble_eq_true rfl), (Nat.le_of_ble_eq_true rfl)⟩ ⟨by show kk + 0 + 0 ≤ 601024; omega, by show nn + 0 + 0 ≤ 7293034; omega⟩ (fun v4 M3 => ?_)
  refine r_icmp_eq (tgt := 1559) hz dL_law_1428 rfl ?_ ?_
  · refine r_cs (k' := kk + 20) (n' := nn + 3000) (by show kk + 0 + 0 ≤ kk + 20; omega) (by show nn + 0 + 0 ≤ nn + 3000; omega) ?_
    exact HR M3
  · refine r_iconst (v := 0) hz dL_law_1431 rfl ?_
    exact r_none
def f_law_c31 (xs : Nat → Int32) (L x1 x2 x3 : Nat) (x4 : Int32) (r : Mm → Option (Int32 × Mm)) (M : Mm) : Option (Int32 × Mm) :=
  ck (inb (x4 + (1 : Int32)) L) (ck (inb (x4 + (2 : Int32)) L) (ck (gK M x1 = 7) (bd (f_X7_lastOne x1 (xs ((x4 + (1 : Int32))).toNatClampNeg) (xs ((x4 + (2 : Int32))).toNatClampNeg) M) fun v2 M1 =>
  ck (inb (x4 + (1 : Int32)) L) (ck (inb (x4 + (2 : Int32)) L) (ck (gK M1 x2 = 8) (bd (f_X8_lastOne x2 (xs ((x4 + (1 : Int32))).toNatClampNeg) (xs ((x4 + (2 : Int32))).toNatClampNeg) M1) fun v4 M3 =>
  (if v2 = v4 then
    r M3
  else
    none)))))))
set_option maxRecDepth 20000 in
set_option maxHeartbeats 4000000 in
theorem s_law_c31 {z : Zt} {b L : Nat} {xs : Nat → Int32} {K : Int32 → Mm → Prop} {rr : Option FieldType} (hz : Good z RL code 7 room_1 rr) (hG : GoodL z b L xs) (kk nn : Nat) (hk : kk + 20 ≤ 601024) (hn : nn + 3000 ≤ 7293034) {x1 x2 x3 : Nat} {x4 : Int32} {r : Mm → Option (Int32 × Mm)} (HR : ∀ M, Sim z 1559 [(0, .ref b), (1, .ref x1), (2, .ref x2), (3, .ref x3), (4, .int x4)] [] M (kk + 20) (nn + 3000) (r M) K) : ∀ M, Sim z 1433 [(0, .ref b), (1, .ref x1), (2, .ref x2), (3, .ref x3), (4, .int x4)] [] M kk nn (f_law_c31 xs L x1 x2 x3 x4 r M) K := by
  intro M
  unfold f_law_c31
  refine r_aload_n hz dL_law_1433 1 rfl ?_
  refine r_aload_n hz dL_law_1434 0 rfl ?_
  refine r_iload hz dL_law_1435 4 rfl ?_
  refine r_iconst (v := 1) hz dL_law_1437 rfl ?_
  refine r_iadd hz dL_law_1438 ?_
  refine r_sld hz hG dL_law_1439 ?_
  refine r_aload_n hz dL_law_1440 0 rfl ?_
  refine r_iload hz dL_law_1441 4 rfl ?_
  refine r_iconst (v := 2) hz dL_law_1443 rfl ?_
  refine r_iadd hz dL_law_1444 ?_
  refine r_sld hz hG dL_law_1445 ?_
  refine r_callVi (As := fun _ => [.int (xs ((x4 + (1 : Int32))).toNatClampNeg), .int (xs ((x4 + (2 : Int32))).toNatClampNeg)]) cl7 hz (fun _ _ h => t_X7_lastOne _ _ _ _ _ _ h) cal_X7_lastOne dL_law_1446 wm_4_186 wm_4_187 wm_4_188 rfl rfl (Nat.le_of_ble_eq_true rfl) ⟨(Nat.le_of_ble_eq_true rfl), (Nat.le_of_ble_eq_true rfl)⟩ ⟨by show kk + 0 ≤ 601024; omega, by show nn + 0 ≤ 7293034; omega⟩ (fun v2 M1 => ?_)
  refine r_aload_n hz dL_law_1449 2 rfl ?_
  refine r_aload_n hz dL_law_1450 0 rfl ?_
  refine r_iload hz dL_law_1451 4 rfl ?_
  refine r_iconst (v := 1) hz dL_law_1453 rfl ?_
  refine r_iadd hz dL_law_1454 ?_
  refine r_sld hz hG dL_law_1455 ?_
  refine r_aload_n hz dL_law_1456 0 rfl ?_
  refine r_iload hz dL_law_1457 4 rfl ?_
  refine r_iconst (v := 2) hz dL_law_1459 rfl ?_
  refine r_iadd hz dL_law_1460 ?_
  refine r_sld hz hG dL_law_1461 ?_
  refine r_callVi (As := fun _ => [.int (xs ((x4 + (1 : Int32))).toNatClampNeg), .int (xs ((x4 + (2 : Int32))).toNatClampNeg)]) cl8 hz (fun _ _ h => t_X8_lastOne _ _ _ _ _ _ h) cal_X8_lastOne dL_law_1462 wm_7_75 wm_7_76 wm_7_77 rfl rfl (Nat.le_of_ble_eq_true rfl) ⟨(Nat.le_of_ble_eq_true rfl), (Nat.le_of_ble_eq_true rfl)⟩ ⟨by show kk + 0 + 0 ≤ 601024; omega, by show nn + 0 + 0 ≤ 7293034; omega⟩ (fun v4 M3 => ?_)
  refine r_icmp_eq (tgt := 1559) hz dL_law_1465 rfl ?_ ?_
  · refine r_cs (k' := kk + 20) (n' := nn + 3000) (by show kk + 0 + 0 ≤ kk + 20; omega) (by show nn + 0 + 0 ≤ nn + 3000; omega) ?_
    exact HR M3
  · refine r_iconst (v := 0) hz dL_law_1468 rfl ?_
    exact r_none
def f_law_c32 (xs : Nat → Int32) (L x1 x2 x3 : Nat) (x4 : Int32) (r : Mm → Option (Int32 × Mm)) (M : Mm) : Option (Int32 × Mm) :=
  ck (inb (x4 + (1 : Int32)) L) (ck (gK M x1 = 7) (bd (f_X7_mean x1 (xs ((x4 + (1 : Int32))).toNatClampNeg) M) fun v2 M1 =>
  ck (inb (x4 + (1 : Int32)) L) (ck (gK M1 x2 = 8) (bd (f_X8_mean x2 (xs ((x4 + (1 : Int32))).toNatClampNeg) M1) fun v4 M3 =>
  (if v2 = v4 then
    r M3
  else
    none)))))
set_option maxRecDepth 20000 in
set_option maxHeartbeats 4000000 in
theorem s_law_c32 {z : Zt} {b L : Nat} {xs : Nat → Int32} {K : Int32 → Mm → Prop} {rr : Option FieldType} (hz : Good z RL code 7 room_1 rr) (hG : GoodL z b L xs) (kk nn : Nat) (hk : kk + 20 ≤ 601024) (hn : nn + 3000 ≤ 7293034) {x1 x2 x3 : Nat} {x4 : Int32} {r : Mm → Option (Int32 × Mm)} (HR : ∀ M, Sim z 1559 [(0, .ref b), (1, .ref x1), (2, .ref x2), (3, .ref x3), (4, .int x4)] [] M (kk + 20) (nn + 3000) (r M) K) : ∀ M, Sim z 1470 [(0, .ref b), (1, .ref x1), (2, .ref x2), (3, .ref x3), (4, .int x4)] [] M kk nn (f_law_c32 xs L x1 x2 x3 x4 r M) K := by
  intro M
  unfold f_law_c32
  refine r_aload_n hz dL_law_1470 1 rfl ?_
  refine r_aload_n hz dL_law_1471 0 rfl ?_
  refine r_iload hz dL_law_1472 4 rfl ?_
  refine r_iconst (v := 1) hz dL_law_1474 rfl ?_
  refine r_iadd hz dL_law_1475 ?_
  refine r_sld hz hG dL_law_1476 ?_
  refine r_callVl (As := fun _ => [.int (xs ((x4 + (1 : Int32))).toNatClampNeg)]) cl7 hz (fun _ _ h => t_X7_mean _ _ _ _ _ h) cal_X7_mean dL_law_1477 wm_4_190 wm_4_191 wm_4_192 rfl rfl (Nat.le_of_ble_eq_true rfl) ⟨(Nat.le_of_ble_eq_true rfl), (Nat.le_of_ble_eq_true rfl)⟩ ⟨by show kk + 0 ≤ 601024; omega, by show nn + 0 ≤ 7293034; omega⟩ (fun v2 M1 => ?_)
  refine r_aload_n hz dL_law_1480 2 rfl ?_
  refine r_aload_n hz dL_law_1481 0 rfl ?_
  refine r_iload hz dL_law_1482 4 rfl ?_
  refine r_iconst (v := 1) hz dL_law_1484 rfl ?_
  refine r_iadd hz dL_law_1485 ?_
  refine r_sld hz hG dL_law_1486 ?_
  refine r_callVl (As := fun _ => [.int (xs ((x4 + (1 : Int32))).toNatClampNeg)]) cl8 hz (fun _ _ h => t_X8_mean _ _ _ _ _ h) cal_X8_mean dL_law_1487 wm_7_83 wm_7_84 wm_7_85 rfl rfl (Nat.le_of_ble_eq_true rfl) ⟨(Nat.le_of_ble_eq_true rfl), (Nat.le_of_ble_eq_true rfl)⟩ ⟨by show kk + 0 + 0 ≤ 601024; omega, by show nn + 0 + 0 ≤ 7293034; omega⟩ (fun v4 M3 => ?_)
  refine r_lcmp_eq (tgt := 1559) hz dL_law_1490 dL_law_1491 rfl ?_ ?_
  · refine r_cs (k' := kk + 20) (n' := nn + 3000) (by show kk + 0 + 0 ≤ kk + 20; omega) (by show nn + 0 + 0 ≤ nn + 3000; omega) ?_
    exact HR M3
  · refine r_iconst (v := 0) hz dL_law_1494 rfl ?_
    exact r_none
def f_law_c33 (xs : Nat → Int32) (L x1 x2 x3 : Nat) (x4 : Int32) (r : Mm → Option (Int32 × Mm)) (M : Mm) : Option (Int32 × Mm) :=
  ck (inb (x4 + (1 : Int32)) L) (ck (gK M x1 = 7) (bd (f_X7_unlucky x1 (xs ((x4 + (1 : Int32))).toNatClampNeg) M) fun v2 M1 =>
  ck (inb (x4 + (1 : Int32)) L) (ck (gK M1 x2 = 8) (bd (f_X8_unlucky x2 (xs ((x4 + (1 : Int32))).toNatClampNeg) M1) fun v4 M3 =>
  (if v2 = v4 then
    r M3
  else
    none)))))
set_option maxRecDepth 20000 in
set_option maxHeartbeats 4000000 in
theorem s_law_c33 {z : Zt} {b L : Nat} {xs : Nat → Int32} {K : Int32 → Mm → Prop} {rr : Option FieldType} (hz : Good z RL code 7 room_1 rr) (hG : GoodL z b L xs) (kk nn : Nat) (hk : kk + 20 ≤ 601024) (hn : nn + 3000 ≤ 7293034) {x1 x2 x3 : Nat} {x4 : Int32} {r : Mm → Option (Int32 × Mm)} (HR : ∀ M, Sim z 1559 [(0, .ref b), (1, .ref x1), (2, .ref x2), (3, .ref x3), (4, .int x4)] [] M (kk + 20) (nn + 3000) (r M) K) : ∀ M, Sim z 1496 [(0, .ref b), (1, .ref x1), (2, .ref x2), (3, .ref x3), (4, .int x4)] [] M kk nn (f_law_c33 xs L x1 x2 x3 x4 r M) K := by
  intro M
  unfold f_law_c33
  refine r_aload_n hz dL_law_1496 1 rfl ?_
  refine r_aload_n hz dL_law_1497 0 rfl ?_
  refine r_iload hz dL_law_1498 4 rfl ?_
  refine r_iconst (v := 1) hz dL_law_1500 rfl ?_
  refine r_iadd hz dL_law_1501 ?_
  refine r_sld hz hG dL_law_1502 ?_
  refine r_callVi (As := fun _ => [.int (xs ((x4 + (1 : Int32))).toNatClampNeg)]) cl7 hz (fun _ _ h => t_X7_unlucky _ _ _ _ _ h) cal_X7_unlucky dL_law_1503 wm_4_200 wm_4_201 wm_4_202 rfl rfl (Nat.le_of_ble_eq_true rfl) ⟨(Nat.le_of_ble_eq_true rfl), (Nat.le_of_ble_eq_true rfl)⟩ ⟨by show kk + 0 ≤ 601024; omega, by show nn + 0 ≤ 7293034; omega⟩ (fun v2 M1 => ?_)
  refine r_aload_n hz dL_law_1506 2 rfl ?_
  refine r_aload_n hz dL_law_1507 0 rfl ?_
  refine r_iload hz dL_law_1508 4 rfl ?_
  refine r_iconst (v := 1) hz dL_law_1510 rfl ?_
  refine r_iadd hz dL_law_1511 ?_
  refine r_sld hz hG dL_law_1512 ?_
  refine r_callVi (As := fun _ => [.int (xs ((x4 + (1 : Int32))).toNatClampNeg)]) cl8 hz (fun _ _ h => t_X8_unlucky _ _ _ _ _ h) cal_X8_unlucky dL_law_1513 wm_7_91 wm_7_92 wm_7_93 rfl rfl (Nat.le_of_ble_eq_true rfl) ⟨(Nat.le_of_ble_eq_true rfl), (Nat.le_of_ble_eq_true rfl)⟩ ⟨by show kk + 0 + 0 ≤ 601024; omega, by show nn + 0 + 0 ≤ 7293034; omega⟩ (fun v4 M3 => ?_)
  refine r_icmp_eq (tgt := 1559) hz dL_law_1516 rfl ?_ ?_
  · refine r_cs (k' := kk + 20) (n' := nn + 3000) (by show kk + 0 + 0 ≤ kk + 20; omega) (by show nn + 0 + 0 ≤ nn + 3000; omega) ?_
    exact HR M3
  · refine r_iconst (v := 0) hz dL_law_1519 rfl ?_
    exact r_none
def f_law_c34 (xs : Nat → Int32) (L x1 x2 x3 : Nat) (x4 : Int32) (r : Mm → Option (Int32 × Mm)) (M : Mm) : Option (Int32 × Mm) :=
  ck (inb (x4 + (1 : Int32)) L) (ck (inb (x4 + (2 : Int32)) L) (ck (gK M x1 = 7) (bd (f_X7_paid x1 (xs ((x4 + (1 : Int32))).toNatClampNeg) (xs ((x4 + (2 : Int32))).toNatClampNeg) M) fun v2 M1 =>
  ck (inb (x4 + (1 : Int32)) L) (ck (inb (x4 + (2 : Int32)) L) (ck (gK M1 x2 = 8) (bd (f_X8_paid x2 (xs ((x4 + (1 : Int32))).toNatClampNeg) (xs ((x4 + (2 : Int32))).toNatClampNeg) M1) fun v4 M3 =>
  (if v2 = v4 then
    r M3
  else
    none)))))))
set_option maxRecDepth 20000 in
set_option maxHeartbeats 4000000 in
theorem s_law_c34 {z : Zt} {b L : Nat} {xs : Nat → Int32} {K : Int32 → Mm → Prop} {rr : Option FieldType} (hz : Good z RL code 7 room_1 rr) (hG : GoodL z b L xs) (kk nn : Nat) (hk : kk + 20 ≤ 601024) (hn : nn + 3000 ≤ 7293034) {x1 x2 x3 : Nat} {x4 : Int32} {r : Mm → Option (Int32 × Mm)} (HR : ∀ M, Sim z 1559 [(0, .ref b), (1, .ref x1), (2, .ref x2), (3, .ref x3), (4, .int x4)] [] M (kk + 20) (nn + 3000) (r M) K) : ∀ M, Sim z 1521 [(0, .ref b), (1, .ref x1), (2, .ref x2), (3, .ref x3), (4, .int x4)] [] M kk nn (f_law_c34 xs L x1 x2 x3 x4 r M) K := by
  intro M
  unfold f_law_c34
  refine r_aload_n hz dL_law_1521 1 rfl ?_
  refine r_aload_n hz dL_law_1522 0 rfl ?_
  refine r_iload hz dL_law_1523 4 rfl ?_
  refine r_iconst (v := 1) hz dL_law_1525 rfl ?_
  refine r_iadd hz dL_law_1526 ?_
  refine r_sld hz hG dL_law_1527 ?_
  refine r_aload_n hz dL_law_1528 0 rfl ?_
  refine r_iload hz dL_law_1529 4 rfl ?_
  refine r_iconst (v := 2) hz dL_law_1531 rfl ?_
  refine r_iadd hz dL_law_1532 ?_
  refine r_sld hz hG dL_law_1533 ?_
  refine r_callVl (As := fun _ => [.int (xs ((x4 + (1 : Int32))).toNatClampNeg), .int (xs ((x4 + (2 : Int32))).toNatClampNeg)]) cl7 hz (fun _ _ h => t_X7_paid _ _ _ _ _ _ h) cal_X7_paid dL_law_1534 wm_4_212 wm_4_213 wm_4_214 rfl rfl (Nat.le_of_ble_eq_true rfl) ⟨(Nat.le_of_ble_eq_true rfl), (Nat.le_of_ble_eq_true rfl)⟩ ⟨by show kk + 0 ≤ 601024; omega, by show nn + 0 ≤ 7293034; omega⟩ (fun v2 M1 => ?_)
  refine r_aload_n hz dL_law_1537 2 rfl ?_
  refine r_aload_n hz dL_law_1538 0 rfl ?_
  refine r_iload hz dL_law_1539 4 rfl ?_
  refine r_iconst (v := 1) hz dL_law_1541 rfl ?_
  refine r_iadd hz dL_law_1542 ?_
  refine r_sld hz hG dL_law_1543 ?_
  refine r_aload_n hz dL_law_1544 0 rfl ?_
  refine r_iload hz dL_law_1545 4 rfl ?_
  refine r_iconst (v := 2) hz dL_law_1547 rfl ?_
  refine r_iadd hz dL_law_1548 ?_
  refine r_sld hz hG dL_law_1549 ?_
  refine r_callVl (As := fun _ => [.int (xs ((x4 + (1 : Int32))).toNatClampNeg), .int (xs ((x4 + (2 : Int32))).toNatClampNeg)]) cl8 hz (fun _ _ h => t_X8_paid _ _ _ _ _ _ h) cal_X8_paid dL_law_1550 wm_7_99 wm_7_100 wm_7_101 rfl rfl (Nat.le_of_ble_eq_true rfl) ⟨(Nat.le_of_ble_eq_true rfl), (Nat.le_of_ble_eq_true rfl)⟩ ⟨by show kk + 0 + 0 ≤ 601024; omega, by show nn + 0 + 0 ≤ 7293034; omega⟩ (fun v4 M3 => ?_)
  refine r_lcmp_eq (tgt := 1559) hz dL_law_1553 dL_law_1554 rfl ?_ ?_
  · refine r_cs (k' := kk + 20) (n' := nn + 3000) (by show kk + 0 + 0 ≤ kk + 20; omega) (by show nn + 0 + 0 ≤ nn + 3000; omega) ?_
    exact HR M3
  · refine r_iconst (v := 0) hz dL_law_1557 rfl ?_
    exact r_none
def f_law_sw (v : Int32) (xs : Nat → Int32) (L x1 x2 x3 : Nat) (x4 : Int32) (r : Mm → Option (Int32 × Mm)) (M : Mm) : Option (Int32 × Mm) :=
  (if v = (0 : Int32) then f_law_c0 xs L x1 x2 x3 x4 r M else
  (if v = (1 : Int32) then f_law_c1 xs L x1 x2 x3 x4 r M else
  (if v = (2 : Int32) then f_law_c2 xs L x1 x2 x3 x4 r M else
  (if v = (3 : Int32) then f_law_c3 xs L x1 x2 x3 x4 r M else
  (if v = (4 : Int32) then f_law_c4 xs L x1 x2 x3 x4 r M else
  (if v = (5 : Int32) then f_law_c5 xs L x1 x2 x3 x4 r M else
  (if v = (6 : Int32) then f_law_c6 xs L x1 x2 x3 x4 r M else
  (if v = (7 : Int32) then f_law_c7 xs L x1 x2 x3 x4 r M else
  (if v = (8 : Int32) then f_law_c8 xs L x1 x2 x3 x4 r M else
  (if v = (9 : Int32) then f_law_c9 xs L x1 x2 x3 x4 r M else
  (if v = (10 : Int32) then f_law_c10 xs L x1 x2 x3 x4 r M else
  (if v = (11 : Int32) then f_law_c11 xs L x1 x2 x3 x4 r M else
  (if v = (12 : Int32) then f_law_c12 xs L x1 x2 x3 x4 r M else
  (if v = (13 : Int32) then f_law_c13 xs L x1 x2 x3 x4 r M else
  (if v = (14 : Int32) then f_law_c14 xs L x1 x2 x3 x4 r M else
  (if v = (15 : Int32) then f_law_c15 xs L x1 x2 x3 x4 r M else
  (if v = (16 : Int32) then f_law_c16 xs L x1 x2 x3 x4 r M else
  (if v = (17 : Int32) then f_law_c17 xs L x1 x2 x3 x4 r M else
  (if v = (18 : Int32) then f_law_c18 xs L x1 x2 x3 x4 r M else
  (if v = (19 : Int32) then f_law_c19 xs L x1 x2 x3 x4 r M else
  (if v = (20 : Int32) then f_law_c20 xs L x1 x2 x3 x4 r M else
  (if v = (21 : Int32) then f_law_c21 xs L x1 x2 x3 x4 r M else
  (if v = (22 : Int32) then f_law_c22 xs L x1 x2 x3 x4 r M else
  (if v = (23 : Int32) then f_law_c23 xs L x1 x2 x3 x4 r M else
  (if v = (24 : Int32) then f_law_c24 xs L x1 x2 x3 x4 r M else
  (if v = (25 : Int32) then f_law_c25 xs L x1 x2 x3 x4 r M else
  (if v = (26 : Int32) then f_law_c26 xs L x1 x2 x3 x4 r M else
  (if v = (27 : Int32) then f_law_c27 xs L x1 x2 x3 x4 r M else
  (if v = (28 : Int32) then f_law_c28 xs L x1 x2 x3 x4 r M else
  (if v = (29 : Int32) then f_law_c29 xs L x1 x2 x3 x4 r M else
  (if v = (30 : Int32) then f_law_c30 xs L x1 x2 x3 x4 r M else
  (if v = (31 : Int32) then f_law_c31 xs L x1 x2 x3 x4 r M else
  (if v = (32 : Int32) then f_law_c32 xs L x1 x2 x3 x4 r M else
  (if v = (33 : Int32) then f_law_c33 xs L x1 x2 x3 x4 r M else
  (if v = (34 : Int32) then f_law_c34 xs L x1 x2 x3 x4 r M else
  r M)))))))))))))))))))))))))))))))))))
set_option maxRecDepth 20000 in
set_option maxHeartbeats 4000000 in
theorem s_law_sw {z : Zt} {b L : Nat} {xs : Nat → Int32} {K : Int32 → Mm → Prop} {rr : Option FieldType} (hz : Good z RL code 7 room_1 rr) (hG : GoodL z b L xs) (kk nn : Nat) (hk : kk + 20 ≤ 601024) (hn : nn + 3000 ≤ 7293034) {x1 x2 x3 : Nat} {x4 : Int32} {r : Mm → Option (Int32 × Mm)} (HR : ∀ M, Sim z 1559 [(0, .ref b), (1, .ref x1), (2, .ref x2), (3, .ref x3), (4, .int x4)] [] M (kk + 20) (nn + 3000) (r M) K) (v : Int32) : ∀ M, Sim z 40 [(0, .ref b), (1, .ref x1), (2, .ref x2), (3, .ref x3), (4, .int x4)] [.int v] M kk nn (f_law_sw v xs L x1 x2 x3 x4 r M) K := by
  intro M
  unfold f_law_sw
  refine r_swc (v := 0) (tgt := 196) hz dL_law_40 (by decide) (by decide) rfl rfl (s_law_c0 hz hG kk nn hk hn HR M) (fun n0 => ?_)
  refine r_swc (v := 1) (tgt := 269) hz dL_law_40 (by decide) (by decide) rfl rfl (s_law_c1 hz hG kk nn hk hn HR M) (fun n1 => ?_)
  refine r_swc (v := 2) (tgt := 294) hz dL_law_40 (by decide) (by decide) rfl rfl (s_law_c2 hz hG kk nn hk hn HR M) (fun n2 => ?_)
  refine r_swc (v := 3) (tgt := 319) hz dL_law_40 (by decide) (by decide) rfl rfl (s_law_c3 hz hG kk nn hk hn HR M) (fun n3 => ?_)
  refine r_swc (v := 4) (tgt := 387) hz dL_law_40 (by decide) (by decide) rfl rfl (s_law_c4 hz hG kk nn hk hn HR M) (fun n4 => ?_)
  refine r_swc (v := 5) (tgt := 412) hz dL_law_40 (by decide) (by decide) rfl rfl (s_law_c5 hz hG kk nn hk hn HR M) (fun n5 => ?_)
  refine r_swc (v := 6) (tgt := 461) hz dL_law_40 (by decide) (by decide) rfl rfl (s_law_c6 hz hG kk nn hk hn HR M) (fun n6 => ?_)
  refine r_swc (v := 7) (tgt := 510) hz dL_law_40 (by decide) (by decide) rfl rfl (s_law_c7 hz hG kk nn hk hn HR M) (fun n7 => ?_)
  refine r_swc (v := 8) (tgt := 559) hz dL_law_40 (by decide) (by decide) rfl rfl (s_law_c8 hz hG kk nn hk hn HR M) (fun n8 => ?_)
  refine r_swc (v := 9) (tgt := 596) hz dL_law_40 (by decide) (by decide) rfl rfl (s_law_c9 hz hG kk nn hk hn HR M) (fun n9 => ?_)
  refine r_swc (v := 10) (tgt := 609) hz dL_law_40 (by decide) (by decide) rfl rfl (s_law_c10 hz hG kk nn hk hn HR M) (fun n10 => ?_)
  refine r_swc (v := 11) (tgt := 646) hz dL_law_40 (by decide) (by decide) rfl rfl (s_law_c11 hz hG kk nn hk hn HR M) (fun n11 => ?_)
  refine r_swc (v := 12) (tgt := 707) hz dL_law_40 (by decide) (by decide) rfl rfl (s_law_c12 hz hG kk nn hk hn HR M) (fun n12 => ?_)
  refine r_swc (v := 13) (tgt := 744) hz dL_law_40 (by decide) (by decide) rfl rfl (s_law_c13 hz hG kk nn hk hn HR M) (fun n13 => ?_)
  refine r_swc (v := 14) (tgt := 793) hz dL_law_40 (by decide) (by decide) rfl rfl (s_law_c14 hz hG kk nn hk hn HR M) (fun n14 => ?_)
  refine r_swc (v := 15) (tgt := 830) hz dL_law_40 (by decide) (by decide) rfl rfl (s_law_c15 hz hG kk nn hk hn HR M) (fun n15 => ?_)
  refine r_swc (v := 16) (tgt := 843) hz dL_law_40 (by decide) (by decide) rfl rfl (s_law_c16 hz hG kk nn hk hn HR M) (fun n16 => ?_)
  refine r_swc (v := 17) (tgt := 896) hz dL_law_40 (by decide) (by decide) rfl rfl (s_law_c17 hz hG kk nn hk hn HR M) (fun n17 => ?_)
  refine r_swc (v := 18) (tgt := 945) hz dL_law_40 (by decide) (by decide) rfl rfl (s_law_c18 hz hG kk nn hk hn HR M) (fun n18 => ?_)
  refine r_swc (v := 19) (tgt := 971) hz dL_law_40 (by decide) (by decide) rfl rfl (s_law_c19 hz hG kk nn hk hn HR M) (fun n19 => ?_)
  refine r_swc (v := 20) (tgt := 1009) hz dL_law_40 (by decide) (by decide) rfl rfl (s_law_c20 hz hG kk nn hk hn HR M) (fun n20 => ?_)
  refine r_swc (v := 21) (tgt := 1047) hz dL_law_40 (by decide) (by decide) rfl rfl (s_law_c21 hz hG kk nn hk hn HR M) (fun n21 => ?_)
  refine r_swc (v := 22) (tgt := 1073) hz dL_law_40 (by decide) (by decide) rfl rfl (s_law_c22 hz hG kk nn hk hn HR M) (fun n22 => ?_)
  refine r_swc (v := 23) (tgt := 1098) hz dL_law_40 (by decide) (by decide) rfl rfl (s_law_c23 hz hG kk nn hk hn HR M) (fun n23 => ?_)
  refine r_swc (v := 24) (tgt := 1135) hz dL_law_40 (by decide) (by decide) rfl rfl (s_law_c24 hz hG kk nn hk hn HR M) (fun n24 => ?_)
  refine r_swc (v := 25) (tgt := 1185) hz dL_law_40 (by decide) (by decide) rfl rfl (s_law_c25 hz hG kk nn hk hn HR M) (fun n25 => ?_)
  refine r_swc (v := 26) (tgt := 1223) hz dL_law_40 (by decide) (by decide) rfl rfl (s_law_c26 hz hG kk nn hk hn HR M) (fun n26 => ?_)
  refine r_swc (v := 27) (tgt := 1237) hz dL_law_40 (by decide) (by decide) rfl rfl (s_law_c27 hz hG kk nn hk hn HR M) (fun n27 => ?_)
  refine r_swc (v := 28) (tgt := 1298) hz dL_law_40 (by decide) (by decide) rfl rfl (s_law_c28 hz hG kk nn hk hn HR M) (fun n28 => ?_)
  refine r_swc (v := 29) (tgt := 1335) hz dL_law_40 (by decide) (by decide) rfl rfl (s_law_c29 hz hG kk nn hk hn HR M) (fun n29 => ?_)
  refine r_swc (v := 30) (tgt := 1384) hz dL_law_40 (by decide) (by decide) rfl rfl (s_law_c30 hz hG kk nn hk hn HR M) (fun n30 => ?_)
  refine r_swc (v := 31) (tgt := 1433) hz dL_law_40 (by decide) (by decide) rfl rfl (s_law_c31 hz hG kk nn hk hn HR M) (fun n31 => ?_)
  refine r_swc (v := 32) (tgt := 1470) hz dL_law_40 (by decide) (by decide) rfl rfl (s_law_c32 hz hG kk nn hk hn HR M) (fun n32 => ?_)
  refine r_swc (v := 33) (tgt := 1496) hz dL_law_40 (by decide) (by decide) rfl rfl (s_law_c33 hz hG kk nn hk hn HR M) (fun n33 => ?_)
  refine r_swc (v := 34) (tgt := 1521) hz dL_law_40 (by decide) (by decide) rfl rfl (s_law_c34 hz hG kk nn hk hn HR M) (fun n34 => ?_)
  refine r_swd (tgt := 1559) hz dL_law_40 (by have n0q := lv_neT n0 (show (0 : Int32).toInt = 0 from rfl); have n1q := lv_neT n1 (show (1 : Int32).toInt = 1 from rfl); have n2q := lv_neT n2 (show (2 : Int32).toInt = 2 from rfl); have n3q := lv_neT n3 (show (3 : Int32).toInt = 3 from rfl); have n4q := lv_neT n4 (show (4 : Int32).toInt = 4 from rfl); have n5q := lv_neT n5 (show (5 : Int32).toInt = 5 from rfl); have n6q := lv_neT n6 (show (6 : Int32).toInt = 6 from rfl); have n7q := lv_neT n7 (show (7 : Int32).toInt = 7 from rfl); have n8q := lv_neT n8 (show (8 : Int32).toInt = 8 from rfl); have n9q := lv_neT n9 (show (9 : Int32).toInt = 9 from rfl); have n10q := lv_neT n10 (show (10 : Int32).toInt = 10 from rfl); have n11q := lv_neT n11 (show (11 : Int32).toInt = 11 from rfl); have n12q := lv_neT n12 (show (12 : Int32).toInt = 12 from rfl); have n13q := lv_neT n13 (show (13 : Int32).toInt = 13 from rfl); have n14q := lv_neT n14 (show (14 : Int32).toInt = 14 from rfl); have n15q := lv_neT n15 (show (15 : Int32).toInt = 15 from rfl); have n16q := lv_neT n16 (show (16 : Int32).toInt = 16 from rfl); have n17q := lv_neT n17 (show (17 : Int32).toInt = 17 from rfl); have n18q := lv_neT n18 (show (18 : Int32).toInt = 18 from rfl); have n19q := lv_neT n19 (show (19 : Int32).toInt = 19 from rfl); have n20q := lv_neT n20 (show (20 : Int32).toInt = 20 from rfl); have n21q := lv_neT n21 (show (21 : Int32).toInt = 21 from rfl); have n22q := lv_neT n22 (show (22 : Int32).toInt = 22 from rfl); have n23q := lv_neT n23 (show (23 : Int32).toInt = 23 from rfl); have n24q := lv_neT n24 (show (24 : Int32).toInt = 24 from rfl); have n25q := lv_neT n25 (show (25 : Int32).toInt = 25 from rfl); have n26q := lv_neT n26 (show (26 : Int32).toInt = 26 from rfl); have n27q := lv_neT n27 (show (27 : Int32).toInt = 27 from rfl); have n28q := lv_neT n28 (show (28 : Int32).toInt = 28 from rfl); have n29q := lv_neT n29 (show (29 : Int32).toInt = 29 from rfl); have n30q := lv_neT n30 (show (30 : Int32).toInt = 30 from rfl); have n31q := lv_neT n31 (show (31 : Int32).toInt = 31 from rfl); have n32q := lv_neT n32 (show (32 : Int32).toInt = 32 from rfl); have n33q := lv_neT n33 (show (33 : Int32).toInt = 33 from rfl); have n34q := lv_neT n34 (show (34 : Int32).toInt = 34 from rfl); omega) rfl ?_
  refine r_cs (k' := kk + 20) (n' := nn + 3000) (by omega) (by omega) ?_
  exact HR M
def f_law_23 (xs : Nat → Int32) (L : Nat) : Nat → Nat → Nat → Nat → Int32 → Mm → Option (Int32 × Mm)
  | 0, _, _, _, _, _ => none
  | n + 1, x1, x2, x3, x4, M =>
    (if ((Int32.ofNat L) - (6 : Int32)) < x4 then
      some ((1 : Int32), M)
    else
      ck (inb x4 L) (f_law_sw ((xs (x4).toNatClampNeg) &&& (63 : Int32)) xs L x1 x2 x3 x4 (fun M => f_law_23 xs L n x1 x2 x3 (x4 + (6 : Int32)) M) M))
set_option maxRecDepth 20000 in
set_option maxHeartbeats 4000000 in
theorem s_law_23 {z : Zt} {b L : Nat} {xs : Nat → Int32} {K : Int32 → Mm → Prop} {rr : Option FieldType} (hz : Good z RL code 7 room_1 rr) (hG : GoodL z b L xs) : ∀ (n kk nn : Nat), kk + 20 * n ≤ 601024 → nn + 3000 * n ≤ 7293034 → ∀ (x1 x2 x3 : Nat) (x4 : Int32) (M : Mm), Sim z 23 [(0, .ref b), (1, .ref x1), (2, .ref x2), (3, .ref x3), (4, .int x4)] [] M kk nn (f_law_23 xs L n x1 x2 x3 x4 M) K := by
  intro n
  induction n with
  | zero => exact fun _ _ _ _ _ _ _ _ _ => r_none
  | succ n ih =>
    intro kk nn hk hn x1 x2 x3 x4 M
    unfold f_law_23
    refine r_iload hz dL_law_23 4 rfl ?_
    refine r_aload_n hz dL_law_25 0 rfl ?_
    refine r_slen hz hG dL_law_26 ?_
    refine r_bipush (v := 6) hz dL_law_27 rfl ?_
    refine r_isub hz dL_law_29 ?_
    refine r_icmp_gt (tgt := 1565) hz dL_law_30 rfl ?_ ?_
    · refine r_iconst (v := 1) hz dL_law_1565 rfl ?_
      exact r_lawret hz hG dL_law_1566 (by omega) (by omega)
    · refine r_aload_n hz dL_law_33 0 rfl ?_
      refine r_iload hz dL_law_34 4 rfl ?_
      refine r_sld hz hG dL_law_36 ?_
      refine r_bipush (v := 63) hz dL_law_37 rfl ?_
      refine r_iand hz dL_law_39 ?_
      refine s_law_sw hz hG kk nn (by omega) (by omega) (fun M => ?_) _ M
      refine r_iinc (v := (x4 + (6 : Int32))) (lv' := [(4, .int (x4 + (6 : Int32))), (0, .ref b), (1, .ref x1), (2, .ref x2), (3, .ref x3)]) hz dL_law_1559 4 rfl rfl (by decide) rfl ?_
      refine r_goto (tgt := 23) hz dL_law_1562 rfl ?_
      refine r_sub [1, 2, 3, 4, 0] rfl ?_
      exact ih (kk + 20) (nn + 3000) (by omega) (by omega) x1 x2 x3 (x4 + (6 : Int32)) M
def f_law (xs : Nat → Int32) (L : Nat) (M : Mm) : Option (Int32 × Mm) :=
  nm (gT M) fun q1 => nm (sN M 7 12) fun M2 =>
  bd (f_X7_init q1 M2) fun _ M3 =>
  nm (gT M3) fun q4 => nm (sN M3 8 34) fun M5 =>
  bd (f_X8_init q4 M5) fun _ M6 =>
  nm (gT M6) fun q7 => nm (sN M6 13 1) fun M8 =>
  f_law_23 xs L 600 q1 q4 q7 (0 : Int32) M8
set_option maxRecDepth 20000 in
set_option maxHeartbeats 4000000 in
theorem s_law {z : Zt} {b L : Nat} {xs : Nat → Int32} {K : Int32 → Mm → Prop} {rr : Option FieldType} (hz : Good z RL code 7 room_1 rr) (hG : GoodL z b L xs) (M : Mm) : Sim z 0 [(0, .ref b)] [] M 0 0 (f_law xs L M) K := by
  unfold f_law
  refine r_new cl7 hz dL_law_0 wm_1_21 wm_1_22 wm_1_1 (Nat.le_of_ble_eq_true rfl) (Nat.le_of_ble_eq_true rfl) ?_
  refine r_nma (fun q1 => ?_)
  refine r_nmM (fun M2 => ?_)
  refine r_dup hz dL_law_3 rfl ?_
  refine r_callI (As := fun _ => []) hz (fun _ _ h => t_X7_init _ _ _ _ h) cal_X7_init rfl dL_law_4 wm_1_23 wm_1_24 rfl rfl (Nat.le_of_ble_eq_true rfl) ⟨(Nat.le_of_ble_eq_true rfl), (Nat.le_of_ble_eq_true rfl)⟩ ⟨(Nat.le_of_ble_eq_true rfl), (Nat.le_of_ble_eq_true rfl)⟩ (fun _ M3 => ?_)
  refine r_astore_n (lv' := [(1, .ref q1), (0, .ref b)]) hz dL_law_7 (by decide) rfl ?_
  refine r_new cl8 hz dL_law_8 wm_5_50 wm_5_51 wm_1_9 (Nat.le_of_ble_eq_true rfl) (Nat.le_of_ble_eq_true rfl) ?_
  refine r_nma (fun q4 => ?_)
  refine r_nmM (fun M5 => ?_)
  refine r_dup hz dL_law_11 rfl ?_
  refine r_callI (As := fun _ => []) hz (fun _ _ h => t_X8_init _ _ _ _ h) cal_X8_init rfl dL_law_12 wm_5_52 wm_5_53 rfl rfl (Nat.le_of_ble_eq_true rfl) ⟨(Nat.le_of_ble_eq_true rfl), (Nat.le_of_ble_eq_true rfl)⟩ ⟨(Nat.le_of_ble_eq_true rfl), (Nat.le_of_ble_eq_true rfl)⟩ (fun _ M6 => ?_)
  refine r_astore_n (lv' := [(2, .ref q4), (1, .ref q1), (0, .ref b)]) hz dL_law_15 (by decide) rfl ?_
  refine r_iconst (v := 1) hz dL_law_16 rfl ?_
  refine r_newJ (len := 1) hz dL_law_17 wm_7_103 rfl (by decide) (Nat.le_of_ble_eq_true rfl) (Nat.le_of_ble_eq_true rfl) (Nat.le_of_ble_eq_true rfl) ?_
  refine r_nma (fun q7 => ?_)
  refine r_nmM (fun M8 => ?_)
  refine r_astore_n (lv' := [(3, .ref q7), (2, .ref q4), (1, .ref q1), (0, .ref b)]) hz dL_law_19 (by decide) rfl ?_
  refine r_iconst (v := 0) hz dL_law_20 rfl ?_
  refine r_istore (lv' := [(4, .int (0 : Int32)), (3, .ref q7), (2, .ref q4), (1, .ref q1), (0, .ref b)]) hz dL_law_21 (by decide) rfl ?_
  refine r_sub [4, 3, 2, 1, 0] rfl ?_
  exact s_law_23 hz hG 600 71 26590 (by omega) (by omega) q1 q4 q7 (0 : Int32) M8
