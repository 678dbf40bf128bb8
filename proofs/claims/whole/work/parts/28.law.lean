/-! the law: its script, room for what a call makes -/
def hscr (L : Nat) (xs : Nat → Int32) (i : Int) (f : Int → hM) : hM := fun u => if 0 ≤ i ∧ i < (L : Int) then f (xs i.toNat).toInt u else none
theorem s_sld {C : hCx} {cc : ByteArray} {own : String} {nL : Nat} {ret : Option FieldType} {mc ms pc pc2 : Nat} {lv : List (Nat × Value)} {st : List Value} {cells slots b L : Nat} {xs : Nat → Int32} {i : Int} {f : Int → hM} (X : hOK C cc own nL ret) (hX : va_X b L xs C.2.2.2.2.2.1 C.1.2.1) (hb : b ≤ C.1.1) (hL : L ≤ 3072) (hd : decode cc pc = .ok (.iaload, 1)) (hp : pc + 1 = pc2) (k : ∀ v, inI v → hSim C ret mc ms nL pc2 lv (vI v :: st) cells slots (f v)) : hSim C ret mc ms nL pc lv (vI i :: .ref b :: st) cells slots (hscr L xs i f) := by
  subst hp
  obtain ⟨G, p, l, e, R, s, m, args, below, meth, c⟩ := C
  intro u r u1 H locs ls h1 h2 h3 h4
  by_cases hi : 0 ≤ i ∧ i < (L : Int)
  · rw [show hscr L xs i f u = f (xs i.toNat).toInt u from if_pos hi] at h1
    obtain ⟨scr, q1, q2, q3, q4, q5⟩ := hX
    obtain ⟨j1, j2, j3, j4⟩ := hg_ix hi.1 hi.2 (by omega)
    have k9 := k _ (toI_in _) u r u1 H locs ls h1 h2 h3 h4
    unfold vI at k9
    rw [Int32.ofInt_toInt] at k9
    exact W.iald (v := .int (xs i.toNat)) X.1 X.2.1 (by rw [h2.2.2.1 b hb]; exact q1) q2 q3 (by rw [q4]; exact j2) (by rw [j3]; exact q5 _ j4) rfl rfl hd k9
  · rw [show hscr L xs i f u = none from if_neg hi] at h1
    cases h1
theorem s_slen {C : hCx} {cc : ByteArray} {own : String} {nL : Nat} {ret : Option FieldType} {mc ms pc pc2 : Nat} {lv : List (Nat × Value)} {st : List Value} {cells slots b L : Nat} {xs : Nat → Int32} {P : hM} (X : hOK C cc own nL ret) (hX : va_X b L xs C.2.2.2.2.2.1 C.1.2.1) (hb : b ≤ C.1.1) (hd : decode cc pc = .ok (.arraylength, 1)) (hp : pc + 1 = pc2) (k : hSim C ret mc ms nL pc2 lv (vI (L : Int) :: st) cells slots P) : hSim C ret mc ms nL pc lv (.ref b :: st) cells slots P := by
  subst hp
  obtain ⟨G, p, l, e, R, s, m, args, below, meth, c⟩ := C
  intro u r u1 H locs ls h1 h2 h3 h4
  obtain ⟨scr, q1, q2, q3, q4, q5⟩ := hX
  exact W.alen (n := Int32.ofInt (L : Int)) X.1 X.2.1 (by rw [h2.2.2.1 b hb]; exact q1) q2 (by rw [q4, Int32.ofInt_eq_ofNat]) rfl rfl hd (k u r u1 H locs ls h1 h2 h3 h4)
theorem s_widen {C : hCx} {nL : Nat} {ret : Option FieldType} {mc ms pc : Nat} {lv : List (Nat × Value)} {st : List Value} {cells slots : Nat} {P : hM} (c2 s2 : Nat) (e1 : cells ≤ c2) (e2 : slots ≤ s2) (k : hSim C ret mc ms nL pc lv st c2 s2 P) : hSim C ret mc ms nL pc lv st cells slots P := by
  obtain ⟨G, p, l, e, R, s, m, args, below, meth, c⟩ := C
  intro u r u1 H locs ls h1 h2 h3 h4
  exact W.widen e1 e2 (k u r u1 H locs ls h1 h2 h3 h4)
theorem s_callVIa {C : hCx} {cc cc2 : ByteArray} {own : String} {nL : Nat} {ret : Option FieldType} {mc ms pc pc2 : Nat} {lv : List (Nat × Value)} {st stk : List Value} {cells slots : Nat} {idx ci a n maxL2 d2 mc2 ms2 : Nat} {y : MethodName} {Cn : String} {T : u_T} {N : Nat} {As : List Value} {g : hM} {f : Int → hM} (X : hOK C cc own nL ret) (hd : decode cc pc = .ok (.invokevirtual idx, 3)) (hp : pc + 3 = pc2) (hl : Cond.methodLink own idx y ∈ tG) (hi : Cond.instanceMethod y ∈ tG) (hsl : Cond.selects y.cls y y ∈ tG) (hcl : hCls ci Cn T N) (hcn : y.cls = Cn) (hM : hMet C.1 C.2.2.1 y cc2 maxL2 (some .int) d2 mc2 ms2 (vR C.1.1 a :: As) g) (hY2 : hY y cc2 maxL2 (some .int) n) (hn : As.length = n) (hs : stk = As.reverse ++ vR C.1.1 a :: st) (hf : d2 + 1 ≤ C.2.2.2.2.1.frames) (hlo : 50 * d2 + 50 ≤ C.2.2.2.2.1.locals) (hst : (st.map fun v => v.category).sum ≤ 8) (hcs : cells + mc2 ≤ C.2.2.2.2.1.cells ∧ slots + ms2 ≤ C.2.2.2.2.1.slots) (k : ∀ v, inI v → hSim C ret mc ms nL pc2 lv (vI v :: st) (cells + mc2) (slots + ms2) (f v)) : hSim C ret mc ms nL pc lv stk cells slots (hcallV ci a g f) := by
  subst hp
  subst hs
  obtain ⟨G, p, l, e, R, s, m, args, below, meth, c⟩ := C
  intro u r u1 H locs ls h1 h2 h3 h4
  by_cases ha : hok u a ci
  · rw [show hcallV ci a g f u = hcall g f u from if_pos ha] at h1
    cases hg : g u with
    | none => rw [show hcall g f u = none by unfold hcall; rw [hg]] at h1; cases h1
    | some w =>
      obtain ⟨r2, u2⟩ := w
      rw [show hcall g f u = f r2 u2 by unfold hcall; rw [hg]] at h1
      have cb := hg_cb (mc2 := mc2) (ms2 := ms2) X hY2 hl hf hlo
      have x5 := X.2.2.2.2.1
      have x6 := X.2.2.2.2.2.1
      obtain ⟨a1, a2, a3⟩ := ha
      obtain ⟨q, q1, q2, q3⟩ := (h2.2.2.2 a a1 a2).1 (by rw [a3]; exact hcl.2.1)
      rw [a3] at q1 q2
      cases q1.symm.trans hcl.1
      obtain ⟨cell, g1, g2, g3, g4⟩ := q2
      show W p l e R s m args below meth c H locs cells slots (hMQ (G, p, l, e, R, s, m, args, below, meth, c) ret mc ms r u1) (F0 m pc ls (As.reverse ++ vR G.1 a :: st))
      have ea : vR G.1 a = .ref (G.1 + a) := if_neg (by omega)
      have hMM := hM u r2 u2 hg
      rw [show vR (G, p, l, e, R, s, m, args, below, meth, c).1.1 a = .ref (G.1 + a) from ea] at hMM
      rw [ea]
      have hr := va_runV (C := y.cls) (rest := st) (As := As) (g := F0 m pc ls (As.reverse ++ .ref (G.1 + a) :: st)) (locs := locs) (cells := cells) (slots := slots) (e := e) (below := below) (meth := meth) (H := H) (b := G.1 + a) ⟨X.1, X.2.1, X.2.2.1, X.2.2.2.1, x5⟩ hMM ⟨cb, x5 _ hi, x5 _ hsl⟩ ⟨hPc_blind, ⟨cell, g1, by rw [g3]; rfl, by rw [g2, hcn]; exact (x6.1.1 ci _ hcl.1).2.1⟩, fun U hU hW => ⟨rfl, hT.warm hW x6, by rw [hU]; exact h2⟩⟩ rfl hn h4.1 rfl (lv_room hst) hd ⟨hcs.1, hcs.2⟩
      exact hg_run hr h3 (fun H2 locs2 z r2 r3 => k _ z _ r u1 H2 locs2 ls h1 r2 r3 h4)
  · rw [show hcallV ci a g f u = none from if_neg ha] at h1
    cases h1
set_option maxRecDepth 4000 in
def m_L_c0 (L : Nat) (xs : Nat → Int32) (k18 : Nat → Nat → Int → hM) (l1 l2 : Nat) (l3 : Int) : hM :=
  hscr L xs (w32 (l3 + 1)) fun v1 =>
  hscr L xs (w32 (l3 + 2)) fun v2 =>
  hscr L xs (w32 (l3 + 3)) fun v3 =>
  hscr L xs (w32 (l3 + 4)) fun v4 =>
  hscr L xs (w32 (l3 + 5)) fun v5 =>
  hcallV 9 l1 (m_X9_feed l1 v1 v2 v3 v4 v5) fun v6 =>
  hscr L xs (w32 (l3 + 1)) fun v7 =>
  hscr L xs (w32 (l3 + 2)) fun v8 =>
  hscr L xs (w32 (l3 + 3)) fun v9 =>
  hscr L xs (w32 (l3 + 4)) fun v10 =>
  hscr L xs (w32 (l3 + 5)) fun v11 =>
  hcallV 10 l2 (m_X10_feed l2 v7 v8 v9 v10 v11) fun v12 =>
  hif (v6 = v12) (k18 l1 l2 (w32 (l3 + 6))) (hretZ 0)
theorem z_L_c0 {C : hCx} (hR9 : C.2.2.2.2.1 = room_1) (X : hOK C cL_law RL 4 (some .boolean)) {b L : Nat} {xs : Nat → Int32} (hX : va_X b L xs C.2.2.2.2.2.1 C.1.2.1) (hb : b ≤ C.1.1) (hL : L ≤ 3072) (k18 : Nat → Nat → Int → hM) (hk18 : ∀ (l1 l2 : Nat) (l3 : Int), inI l3 → ∀ (cells slots : Nat), (cells : Int) ≤ 300 + 3 * l3 → (slots : Int) ≤ 17000 + 35 * l3 → hSim C (some .boolean) 600000 7302250 4 18 [(0, .ref b), (1, vR C.1.1 l1), (2, vR C.1.1 l2), (3, vI l3)] [] cells slots (k18 l1 l2 l3)) (l1 l2 : Nat) (l3 : Int) (h3 : inI l3) (p3 : 0 ≤ l3 ∧ l3 ≤ 4000) (cells slots : Nat) (e1 : (cells : Int) ≤ 300 + 3 * l3) (e2 : (slots : Int) ≤ 17000 + 35 * l3) : hSim C (some .boolean) 600000 7302250 4 164 [(0, .ref b), (1, vR C.1.1 l1), (2, vR C.1.1 l2), (3, vI l3)] [] cells slots (m_L_c0 L xs k18 l1 l2 l3) := by
  have hc1 : C.2.2.2.2.1.cells = 600000 := by rw [hR9]; rfl
  have hc2 : C.2.2.2.2.1.slots = 7302250 := by rw [hR9]; rfl
  have hf : 60 + 1 ≤ C.2.2.2.2.1.frames := by rw [hR9]; exact Nat.le_of_ble_eq_true rfl
  have hlo : 50 * 60 + 50 ≤ C.2.2.2.2.1.locals := by rw [hR9]; exact Nat.le_of_ble_eq_true rfl
  have w6 : w32 (l3 + 6) = l3 + 6 := w32_id ⟨by omega, by omega⟩
  unfold m_L_c0
  refine s_aload_n (j := 1) (pc2 := 165) X dL_law_164 rfl rfl ?_
  refine s_sload_n (j := 0) (pc2 := 166) X dL_law_165 rfl rfl ?_
  refine s_iload_n (j := 3) (pc2 := 167) X dL_law_166 rfl rfl ?_
  refine s_iconst (n := 1) (pc2 := 168) X dL_law_167 rfl ?_
  refine s_iadd (pc2 := 169) X dL_law_168 rfl ?_
  refine s_sld (pc2 := 170) X hX hb hL dL_law_169 rfl (fun v1 hv1 => ?_)
  refine s_sload_n (j := 0) (pc2 := 171) X dL_law_170 rfl rfl ?_
  refine s_iload_n (j := 3) (pc2 := 172) X dL_law_171 rfl rfl ?_
  refine s_iconst (n := 2) (pc2 := 173) X dL_law_172 rfl ?_
  refine s_iadd (pc2 := 174) X dL_law_173 rfl ?_
  refine s_sld (pc2 := 175) X hX hb hL dL_law_174 rfl (fun v2 hv2 => ?_)
  refine s_sload_n (j := 0) (pc2 := 176) X dL_law_175 rfl rfl ?_
  refine s_iload_n (j := 3) (pc2 := 177) X dL_law_176 rfl rfl ?_
  refine s_iconst (n := 3) (pc2 := 178) X dL_law_177 rfl ?_
  refine s_iadd (pc2 := 179) X dL_law_178 rfl ?_
  refine s_sld (pc2 := 180) X hX hb hL dL_law_179 rfl (fun v3 hv3 => ?_)
  refine s_sload_n (j := 0) (pc2 := 181) X dL_law_180 rfl rfl ?_
  refine s_iload_n (j := 3) (pc2 := 182) X dL_law_181 rfl rfl ?_
  refine s_iconst (n := 4) (pc2 := 183) X dL_law_182 rfl ?_
  refine s_iadd (pc2 := 184) X dL_law_183 rfl ?_
  refine s_sld (pc2 := 185) X hX hb hL dL_law_184 rfl (fun v4 hv4 => ?_)
  refine s_sload_n (j := 0) (pc2 := 186) X dL_law_185 rfl rfl ?_
  refine s_iload_n (j := 3) (pc2 := 187) X dL_law_186 rfl rfl ?_
  refine s_iconst (n := 5) (pc2 := 188) X dL_law_187 rfl ?_
  refine s_iadd (pc2 := 189) X dL_law_188 rfl ?_
  refine s_sld (pc2 := 190) X hX hb hL dL_law_189 rfl (fun v5 hv5 => ?_)
  refine s_callVI (d2 := 60) (As := [vI v1, vI v2, vI v3, vI v4, vI v5]) (st := []) (pc2 := 193) X dL_law_190 rfl ml_RL_13 im_X9_feed se_X9_feed kX9 rfl (c_X9_feed 60 (by decide) C.1 C.2.2.1 l1 v1 v2 v3 v4 v5 hv1 hv2 hv3 hv4 hv5) hy_X9_feed rfl rfl hf hlo (st_room (Nat.le_of_ble_eq_true rfl)) ⟨by rw [hc1]; omega, by rw [hc2]; omega⟩ (fun v6 hv6 => ?_)
  refine s_aload_n (j := 2) (pc2 := 194) X dL_law_193 rfl rfl ?_
  refine s_sload_n (j := 0) (pc2 := 195) X dL_law_194 rfl rfl ?_
  refine s_iload_n (j := 3) (pc2 := 196) X dL_law_195 rfl rfl ?_
  refine s_iconst (n := 1) (pc2 := 197) X dL_law_196 rfl ?_
  refine s_iadd (pc2 := 198) X dL_law_197 rfl ?_
  refine s_sld (pc2 := 199) X hX hb hL dL_law_198 rfl (fun v7 hv7 => ?_)
  refine s_sload_n (j := 0) (pc2 := 200) X dL_law_199 rfl rfl ?_
  refine s_iload_n (j := 3) (pc2 := 201) X dL_law_200 rfl rfl ?_
  refine s_iconst (n := 2) (pc2 := 202) X dL_law_201 rfl ?_
  refine s_iadd (pc2 := 203) X dL_law_202 rfl ?_
  refine s_sld (pc2 := 204) X hX hb hL dL_law_203 rfl (fun v8 hv8 => ?_)
  refine s_sload_n (j := 0) (pc2 := 205) X dL_law_204 rfl rfl ?_
  refine s_iload_n (j := 3) (pc2 := 206) X dL_law_205 rfl rfl ?_
  refine s_iconst (n := 3) (pc2 := 207) X dL_law_206 rfl ?_
  refine s_iadd (pc2 := 208) X dL_law_207 rfl ?_
  refine s_sld (pc2 := 209) X hX hb hL dL_law_208 rfl (fun v9 hv9 => ?_)
  refine s_sload_n (j := 0) (pc2 := 210) X dL_law_209 rfl rfl ?_
  refine s_iload_n (j := 3) (pc2 := 211) X dL_law_210 rfl rfl ?_
  refine s_iconst (n := 4) (pc2 := 212) X dL_law_211 rfl ?_
  refine s_iadd (pc2 := 213) X dL_law_212 rfl ?_
  refine s_sld (pc2 := 214) X hX hb hL dL_law_213 rfl (fun v10 hv10 => ?_)
  refine s_sload_n (j := 0) (pc2 := 215) X dL_law_214 rfl rfl ?_
  refine s_iload_n (j := 3) (pc2 := 216) X dL_law_215 rfl rfl ?_
  refine s_iconst (n := 5) (pc2 := 217) X dL_law_216 rfl ?_
  refine s_iadd (pc2 := 218) X dL_law_217 rfl ?_
  refine s_sld (pc2 := 219) X hX hb hL dL_law_218 rfl (fun v11 hv11 => ?_)
  refine s_callVI (d2 := 60) (As := [vI v7, vI v8, vI v9, vI v10, vI v11]) (st := [vI v6]) (pc2 := 222) X dL_law_219 rfl ml_RL_17 im_X10_feed se_X10_feed kX10 rfl (c_X10_feed 60 (by decide) C.1 C.2.2.1 l2 v7 v8 v9 v10 v11 hv7 hv8 hv9 hv10 hv11) hy_X10_feed rfl rfl hf hlo (st_room (Nat.le_of_ble_eq_true rfl)) ⟨by rw [hc1]; omega, by rw [hc2]; omega⟩ (fun v12 hv12 => ?_)
  refine s_iceq (tgt := 1051) (pc2 := 225) X dL_law_222 (by decide) rfl hv6 hv12 ?_ ?_
  · refine s_iincK (j := 3) (y := w32 (l3 + 6)) (pc2 := 1054) X dL_law_1051 rfl (by decide) rfl rfl rfl rfl cat1_R ?_
    refine s_goto (pc2 := 18) X dL_law_1054 (by decide) ?_
    refine s_sub (lv2 := [(0, .ref b), (1, vR C.1.1 l1), (2, vR C.1.1 l2), (3, vI (w32 (l3 + 6)))]) [1, 2, 3, 0] rfl ?_
    exact hk18 l1 l2 _ (w32_in _) _ _ (by omega) (by omega)
  · refine s_iconst (n := 0) (pc2 := 226) X dL_law_225 rfl ?_
    refine s_widen 600000 7302250 (by omega) (by omega) ?_
    exact s_zret X dL_law_226
set_option maxRecDepth 4000 in
def m_L_c1 (L : Nat) (xs : Nat → Int32) (k18 : Nat → Nat → Int → hM) (l1 l2 : Nat) (l3 : Int) : hM :=
  hscr L xs (w32 (l3 + 1)) fun v1 =>
  hcallV 9 l1 (m_X9_end l1 v1) fun v2 =>
  hscr L xs (w32 (l3 + 1)) fun v3 =>
  hcallV 10 l2 (m_X10_end l2 v3) fun v4 =>
  hif (v2 = v4) (k18 l1 l2 (w32 (l3 + 6))) (hretZ 0)
theorem z_L_c1 {C : hCx} (hR9 : C.2.2.2.2.1 = room_1) (X : hOK C cL_law RL 4 (some .boolean)) {b L : Nat} {xs : Nat → Int32} (hX : va_X b L xs C.2.2.2.2.2.1 C.1.2.1) (hb : b ≤ C.1.1) (hL : L ≤ 3072) (k18 : Nat → Nat → Int → hM) (hk18 : ∀ (l1 l2 : Nat) (l3 : Int), inI l3 → ∀ (cells slots : Nat), (cells : Int) ≤ 300 + 3 * l3 → (slots : Int) ≤ 17000 + 35 * l3 → hSim C (some .boolean) 600000 7302250 4 18 [(0, .ref b), (1, vR C.1.1 l1), (2, vR C.1.1 l2), (3, vI l3)] [] cells slots (k18 l1 l2 l3)) (l1 l2 : Nat) (l3 : Int) (h3 : inI l3) (p3 : 0 ≤ l3 ∧ l3 ≤ 4000) (cells slots : Nat) (e1 : (cells : Int) ≤ 300 + 3 * l3) (e2 : (slots : Int) ≤ 17000 + 35 * l3) : hSim C (some .boolean) 600000 7302250 4 227 [(0, .ref b), (1, vR C.1.1 l1), (2, vR C.1.1 l2), (3, vI l3)] [] cells slots (m_L_c1 L xs k18 l1 l2 l3) := by
  have hc1 : C.2.2.2.2.1.cells = 600000 := by rw [hR9]; rfl
  have hc2 : C.2.2.2.2.1.slots = 7302250 := by rw [hR9]; rfl
  have hf : 60 + 1 ≤ C.2.2.2.2.1.frames := by rw [hR9]; exact Nat.le_of_ble_eq_true rfl
  have hlo : 50 * 60 + 50 ≤ C.2.2.2.2.1.locals := by rw [hR9]; exact Nat.le_of_ble_eq_true rfl
  have w6 : w32 (l3 + 6) = l3 + 6 := w32_id ⟨by omega, by omega⟩
  unfold m_L_c1
  refine s_aload_n (j := 1) (pc2 := 228) X dL_law_227 rfl rfl ?_
  refine s_sload_n (j := 0) (pc2 := 229) X dL_law_228 rfl rfl ?_
  refine s_iload_n (j := 3) (pc2 := 230) X dL_law_229 rfl rfl ?_
  refine s_iconst (n := 1) (pc2 := 231) X dL_law_230 rfl ?_
  refine s_iadd (pc2 := 232) X dL_law_231 rfl ?_
  refine s_sld (pc2 := 233) X hX hb hL dL_law_232 rfl (fun v1 hv1 => ?_)
  refine s_callVI (d2 := 60) (As := [vI v1]) (st := []) (pc2 := 236) X dL_law_233 rfl ml_RL_18 im_X9_end se_X9_end kX9 rfl (c_X9_end 60 (by decide) C.1 C.2.2.1 l1 v1 hv1) hy_X9_end rfl rfl hf hlo (st_room (Nat.le_of_ble_eq_true rfl)) ⟨by rw [hc1]; omega, by rw [hc2]; omega⟩ (fun v2 hv2 => ?_)
  refine s_aload_n (j := 2) (pc2 := 237) X dL_law_236 rfl rfl ?_
  refine s_sload_n (j := 0) (pc2 := 238) X dL_law_237 rfl rfl ?_
  refine s_iload_n (j := 3) (pc2 := 239) X dL_law_238 rfl rfl ?_
  refine s_iconst (n := 1) (pc2 := 240) X dL_law_239 rfl ?_
  refine s_iadd (pc2 := 241) X dL_law_240 rfl ?_
  refine s_sld (pc2 := 242) X hX hb hL dL_law_241 rfl (fun v3 hv3 => ?_)
  refine s_callVI (d2 := 60) (As := [vI v3]) (st := [vI v2]) (pc2 := 245) X dL_law_242 rfl ml_RL_22 im_X10_end se_X10_end kX10 rfl (c_X10_end 60 (by decide) C.1 C.2.2.1 l2 v3 hv3) hy_X10_end rfl rfl hf hlo (st_room (Nat.le_of_ble_eq_true rfl)) ⟨by rw [hc1]; omega, by rw [hc2]; omega⟩ (fun v4 hv4 => ?_)
  refine s_iceq (tgt := 1051) (pc2 := 248) X dL_law_245 (by decide) rfl hv2 hv4 ?_ ?_
  · refine s_iincK (j := 3) (y := w32 (l3 + 6)) (pc2 := 1054) X dL_law_1051 rfl (by decide) rfl rfl rfl rfl cat1_R ?_
    refine s_goto (pc2 := 18) X dL_law_1054 (by decide) ?_
    refine s_sub (lv2 := [(0, .ref b), (1, vR C.1.1 l1), (2, vR C.1.1 l2), (3, vI (w32 (l3 + 6)))]) [1, 2, 3, 0] rfl ?_
    exact hk18 l1 l2 _ (w32_in _) _ _ (by omega) (by omega)
  · refine s_iconst (n := 0) (pc2 := 249) X dL_law_248 rfl ?_
    refine s_widen 600000 7302250 (by omega) (by omega) ?_
    exact s_zret X dL_law_249
set_option maxRecDepth 4000 in
def m_L_c2 (L : Nat) (xs : Nat → Int32) (k18 : Nat → Nat → Int → hM) (l1 l2 : Nat) (l3 : Int) : hM :=
  hcallV 9 l1 (m_X9_town l1) fun v1 =>
  hcallV 10 l2 (m_X10_town l2) fun v2 =>
  hif (v1 = v2) (k18 l1 l2 (w32 (l3 + 6))) (hretZ 0)
theorem z_L_c2 {C : hCx} (hR9 : C.2.2.2.2.1 = room_1) (X : hOK C cL_law RL 4 (some .boolean)) {b L : Nat} {xs : Nat → Int32} (hX : va_X b L xs C.2.2.2.2.2.1 C.1.2.1) (hb : b ≤ C.1.1) (hL : L ≤ 3072) (k18 : Nat → Nat → Int → hM) (hk18 : ∀ (l1 l2 : Nat) (l3 : Int), inI l3 → ∀ (cells slots : Nat), (cells : Int) ≤ 300 + 3 * l3 → (slots : Int) ≤ 17000 + 35 * l3 → hSim C (some .boolean) 600000 7302250 4 18 [(0, .ref b), (1, vR C.1.1 l1), (2, vR C.1.1 l2), (3, vI l3)] [] cells slots (k18 l1 l2 l3)) (l1 l2 : Nat) (l3 : Int) (h3 : inI l3) (p3 : 0 ≤ l3 ∧ l3 ≤ 4000) (cells slots : Nat) (e1 : (cells : Int) ≤ 300 + 3 * l3) (e2 : (slots : Int) ≤ 17000 + 35 * l3) : hSim C (some .boolean) 600000 7302250 4 250 [(0, .ref b), (1, vR C.1.1 l1), (2, vR C.1.1 l2), (3, vI l3)] [] cells slots (m_L_c2 L xs k18 l1 l2 l3) := by
  have hc1 : C.2.2.2.2.1.cells = 600000 := by rw [hR9]; rfl
  have hc2 : C.2.2.2.2.1.slots = 7302250 := by rw [hR9]; rfl
  have hf : 60 + 1 ≤ C.2.2.2.2.1.frames := by rw [hR9]; exact Nat.le_of_ble_eq_true rfl
  have hlo : 50 * 60 + 50 ≤ C.2.2.2.2.1.locals := by rw [hR9]; exact Nat.le_of_ble_eq_true rfl
  have w6 : w32 (l3 + 6) = l3 + 6 := w32_id ⟨by omega, by omega⟩
  unfold m_L_c2
  refine s_aload_n (j := 1) (pc2 := 251) X dL_law_250 rfl rfl ?_
  refine s_callVIa (d2 := 60) (mc2 := 18) (ms2 := 207) (As := []) (st := []) (pc2 := 254) X dL_law_251 rfl ml_RL_23 im_X9_town se_X9_town kX9 rfl (c_X9_town 60 (by decide) C.1 C.2.2.1 l1) hy_X9_town rfl rfl hf hlo (st_room (Nat.le_of_ble_eq_true rfl)) ⟨by rw [hc1]; omega, by rw [hc2]; omega⟩ (fun v1 hv1 => ?_)
  refine s_aload_n (j := 2) (pc2 := 255) X dL_law_254 rfl rfl ?_
  refine s_callVI (d2 := 60) (As := []) (st := [vI v1]) (pc2 := 258) X dL_law_255 rfl ml_RL_27 im_X10_town se_X10_town kX10 rfl (c_X10_town 60 (by decide) C.1 C.2.2.1 l2) hy_X10_town rfl rfl hf hlo (st_room (Nat.le_of_ble_eq_true rfl)) ⟨by rw [hc1]; omega, by rw [hc2]; omega⟩ (fun v2 hv2 => ?_)
  refine s_iceq (tgt := 1051) (pc2 := 261) X dL_law_258 (by decide) rfl hv1 hv2 ?_ ?_
  · refine s_iincK (j := 3) (y := w32 (l3 + 6)) (pc2 := 1054) X dL_law_1051 rfl (by decide) rfl rfl rfl rfl cat1_R ?_
    refine s_goto (pc2 := 18) X dL_law_1054 (by decide) ?_
    refine s_sub (lv2 := [(0, .ref b), (1, vR C.1.1 l1), (2, vR C.1.1 l2), (3, vI (w32 (l3 + 6)))]) [1, 2, 3, 0] rfl ?_
    exact hk18 l1 l2 _ (w32_in _) _ _ (by omega) (by omega)
  · refine s_iconst (n := 0) (pc2 := 262) X dL_law_261 rfl ?_
    refine s_widen 600000 7302250 (by omega) (by omega) ?_
    exact s_zret X dL_law_262
set_option maxRecDepth 4000 in
def m_L_c3 (L : Nat) (xs : Nat → Int32) (k18 : Nat → Nat → Int → hM) (l1 l2 : Nat) (l3 : Int) : hM :=
  hcallV 9 l1 (m_X9_rule l1) fun v1 =>
  hcallV 10 l2 (m_X10_rule l2) fun v2 =>
  hif (v1 = v2) (k18 l1 l2 (w32 (l3 + 6))) (hretZ 0)
theorem z_L_c3 {C : hCx} (hR9 : C.2.2.2.2.1 = room_1) (X : hOK C cL_law RL 4 (some .boolean)) {b L : Nat} {xs : Nat → Int32} (hX : va_X b L xs C.2.2.2.2.2.1 C.1.2.1) (hb : b ≤ C.1.1) (hL : L ≤ 3072) (k18 : Nat → Nat → Int → hM) (hk18 : ∀ (l1 l2 : Nat) (l3 : Int), inI l3 → ∀ (cells slots : Nat), (cells : Int) ≤ 300 + 3 * l3 → (slots : Int) ≤ 17000 + 35 * l3 → hSim C (some .boolean) 600000 7302250 4 18 [(0, .ref b), (1, vR C.1.1 l1), (2, vR C.1.1 l2), (3, vI l3)] [] cells slots (k18 l1 l2 l3)) (l1 l2 : Nat) (l3 : Int) (h3 : inI l3) (p3 : 0 ≤ l3 ∧ l3 ≤ 4000) (cells slots : Nat) (e1 : (cells : Int) ≤ 300 + 3 * l3) (e2 : (slots : Int) ≤ 17000 + 35 * l3) : hSim C (some .boolean) 600000 7302250 4 263 [(0, .ref b), (1, vR C.1.1 l1), (2, vR C.1.1 l2), (3, vI l3)] [] cells slots (m_L_c3 L xs k18 l1 l2 l3) := by
  have hc1 : C.2.2.2.2.1.cells = 600000 := by rw [hR9]; rfl
  have hc2 : C.2.2.2.2.1.slots = 7302250 := by rw [hR9]; rfl
  have hf : 60 + 1 ≤ C.2.2.2.2.1.frames := by rw [hR9]; exact Nat.le_of_ble_eq_true rfl
  have hlo : 50 * 60 + 50 ≤ C.2.2.2.2.1.locals := by rw [hR9]; exact Nat.le_of_ble_eq_true rfl
  have w6 : w32 (l3 + 6) = l3 + 6 := w32_id ⟨by omega, by omega⟩
  unfold m_L_c3
  refine s_aload_n (j := 1) (pc2 := 264) X dL_law_263 rfl rfl ?_
  refine s_callVI (d2 := 60) (As := []) (st := []) (pc2 := 267) X dL_law_264 rfl ml_RL_28 im_X9_rule se_X9_rule kX9 rfl (c_X9_rule 60 (by decide) C.1 C.2.2.1 l1) hy_X9_rule rfl rfl hf hlo (st_room (Nat.le_of_ble_eq_true rfl)) ⟨by rw [hc1]; omega, by rw [hc2]; omega⟩ (fun v1 hv1 => ?_)
  refine s_aload_n (j := 2) (pc2 := 268) X dL_law_267 rfl rfl ?_
  refine s_callVI (d2 := 60) (As := []) (st := [vI v1]) (pc2 := 271) X dL_law_268 rfl ml_RL_31 im_X10_rule se_X10_rule kX10 rfl (c_X10_rule 60 (by decide) C.1 C.2.2.1 l2) hy_X10_rule rfl rfl hf hlo (st_room (Nat.le_of_ble_eq_true rfl)) ⟨by rw [hc1]; omega, by rw [hc2]; omega⟩ (fun v2 hv2 => ?_)
  refine s_iceq (tgt := 1051) (pc2 := 274) X dL_law_271 (by decide) rfl hv1 hv2 ?_ ?_
  · refine s_iincK (j := 3) (y := w32 (l3 + 6)) (pc2 := 1054) X dL_law_1051 rfl (by decide) rfl rfl rfl rfl cat1_R ?_
    refine s_goto (pc2 := 18) X dL_law_1054 (by decide) ?_
    refine s_sub (lv2 := [(0, .ref b), (1, vR C.1.1 l1), (2, vR C.1.1 l2), (3, vI (w32 (l3 + 6)))]) [1, 2, 3, 0] rfl ?_
    exact hk18 l1 l2 _ (w32_in _) _ _ (by omega) (by omega)
  · refine s_iconst (n := 0) (pc2 := 275) X dL_law_274 rfl ?_
    refine s_widen 600000 7302250 (by omega) (by omega) ?_
    exact s_zret X dL_law_275
set_option maxRecDepth 4000 in
def m_L_c4 (L : Nat) (xs : Nat → Int32) (k18 : Nat → Nat → Int → hM) (l1 l2 : Nat) (l3 : Int) : hM :=
  hscr L xs (w32 (l3 + 1)) fun v1 =>
  hscr L xs (w32 (l3 + 2)) fun v2 =>
  hcallV 9 l1 (m_X9_person l1 v1 v2) fun v3 =>
  hscr L xs (w32 (l3 + 1)) fun v4 =>
  hscr L xs (w32 (l3 + 2)) fun v5 =>
  hcallV 10 l2 (m_X10_person l2 v4 v5) fun v6 =>
  hif (v3 = v6) (k18 l1 l2 (w32 (l3 + 6))) (hretZ 0)
theorem z_L_c4 {C : hCx} (hR9 : C.2.2.2.2.1 = room_1) (X : hOK C cL_law RL 4 (some .boolean)) {b L : Nat} {xs : Nat → Int32} (hX : va_X b L xs C.2.2.2.2.2.1 C.1.2.1) (hb : b ≤ C.1.1) (hL : L ≤ 3072) (k18 : Nat → Nat → Int → hM) (hk18 : ∀ (l1 l2 : Nat) (l3 : Int), inI l3 → ∀ (cells slots : Nat), (cells : Int) ≤ 300 + 3 * l3 → (slots : Int) ≤ 17000 + 35 * l3 → hSim C (some .boolean) 600000 7302250 4 18 [(0, .ref b), (1, vR C.1.1 l1), (2, vR C.1.1 l2), (3, vI l3)] [] cells slots (k18 l1 l2 l3)) (l1 l2 : Nat) (l3 : Int) (h3 : inI l3) (p3 : 0 ≤ l3 ∧ l3 ≤ 4000) (cells slots : Nat) (e1 : (cells : Int) ≤ 300 + 3 * l3) (e2 : (slots : Int) ≤ 17000 + 35 * l3) : hSim C (some .boolean) 600000 7302250 4 276 [(0, .ref b), (1, vR C.1.1 l1), (2, vR C.1.1 l2), (3, vI l3)] [] cells slots (m_L_c4 L xs k18 l1 l2 l3) := by
  have hc1 : C.2.2.2.2.1.cells = 600000 := by rw [hR9]; rfl
  have hc2 : C.2.2.2.2.1.slots = 7302250 := by rw [hR9]; rfl
  have hf : 60 + 1 ≤ C.2.2.2.2.1.frames := by rw [hR9]; exact Nat.le_of_ble_eq_true rfl
  have hlo : 50 * 60 + 50 ≤ C.2.2.2.2.1.locals := by rw [hR9]; exact Nat.le_of_ble_eq_true rfl
  have w6 : w32 (l3 + 6) = l3 + 6 := w32_id ⟨by omega, by omega⟩
  unfold m_L_c4
  refine s_aload_n (j := 1) (pc2 := 277) X dL_law_276 rfl rfl ?_
  refine s_sload_n (j := 0) (pc2 := 278) X dL_law_277 rfl rfl ?_
  refine s_iload_n (j := 3) (pc2 := 279) X dL_law_278 rfl rfl ?_
  refine s_iconst (n := 1) (pc2 := 280) X dL_law_279 rfl ?_
  refine s_iadd (pc2 := 281) X dL_law_280 rfl ?_
  refine s_sld (pc2 := 282) X hX hb hL dL_law_281 rfl (fun v1 hv1 => ?_)
  refine s_sload_n (j := 0) (pc2 := 283) X dL_law_282 rfl rfl ?_
  refine s_iload_n (j := 3) (pc2 := 284) X dL_law_283 rfl rfl ?_
  refine s_iconst (n := 2) (pc2 := 285) X dL_law_284 rfl ?_
  refine s_iadd (pc2 := 286) X dL_law_285 rfl ?_
  refine s_sld (pc2 := 287) X hX hb hL dL_law_286 rfl (fun v2 hv2 => ?_)
  refine s_callVI (d2 := 60) (As := [vI v1, vI v2]) (st := []) (pc2 := 290) X dL_law_287 rfl ml_RL_32 im_X9_person se_X9_person kX9 rfl (c_X9_person 60 (by decide) C.1 C.2.2.1 l1 v1 v2 hv1 hv2) hy_X9_person rfl rfl hf hlo (st_room (Nat.le_of_ble_eq_true rfl)) ⟨by rw [hc1]; omega, by rw [hc2]; omega⟩ (fun v3 hv3 => ?_)
  refine s_aload_n (j := 2) (pc2 := 291) X dL_law_290 rfl rfl ?_
  refine s_sload_n (j := 0) (pc2 := 292) X dL_law_291 rfl rfl ?_
  refine s_iload_n (j := 3) (pc2 := 293) X dL_law_292 rfl rfl ?_
  refine s_iconst (n := 1) (pc2 := 294) X dL_law_293 rfl ?_
  refine s_iadd (pc2 := 295) X dL_law_294 rfl ?_
  refine s_sld (pc2 := 296) X hX hb hL dL_law_295 rfl (fun v4 hv4 => ?_)
  refine s_sload_n (j := 0) (pc2 := 297) X dL_law_296 rfl rfl ?_
  refine s_iload_n (j := 3) (pc2 := 298) X dL_law_297 rfl rfl ?_
  refine s_iconst (n := 2) (pc2 := 299) X dL_law_298 rfl ?_
  refine s_iadd (pc2 := 300) X dL_law_299 rfl ?_
  refine s_sld (pc2 := 301) X hX hb hL dL_law_300 rfl (fun v5 hv5 => ?_)
  refine s_callVI (d2 := 60) (As := [vI v4, vI v5]) (st := [vI v3]) (pc2 := 304) X dL_law_301 rfl ml_RL_36 im_X10_person se_X10_person kX10 rfl (c_X10_person 60 (by decide) C.1 C.2.2.1 l2 v4 v5 hv4 hv5) hy_X10_person rfl rfl hf hlo (st_room (Nat.le_of_ble_eq_true rfl)) ⟨by rw [hc1]; omega, by rw [hc2]; omega⟩ (fun v6 hv6 => ?_)
  refine s_iceq (tgt := 1051) (pc2 := 307) X dL_law_304 (by decide) rfl hv3 hv6 ?_ ?_
  · refine s_iincK (j := 3) (y := w32 (l3 + 6)) (pc2 := 1054) X dL_law_1051 rfl (by decide) rfl rfl rfl rfl cat1_R ?_
    refine s_goto (pc2 := 18) X dL_law_1054 (by decide) ?_
    refine s_sub (lv2 := [(0, .ref b), (1, vR C.1.1 l1), (2, vR C.1.1 l2), (3, vI (w32 (l3 + 6)))]) [1, 2, 3, 0] rfl ?_
    exact hk18 l1 l2 _ (w32_in _) _ _ (by omega) (by omega)
  · refine s_iconst (n := 0) (pc2 := 308) X dL_law_307 rfl ?_
    refine s_widen 600000 7302250 (by omega) (by omega) ?_
    exact s_zret X dL_law_308
set_option maxRecDepth 4000 in
def m_L_c5 (L : Nat) (xs : Nat → Int32) (k18 : Nat → Nat → Int → hM) (l1 l2 : Nat) (l3 : Int) : hM :=
  hscr L xs (w32 (l3 + 1)) fun v1 =>
  hscr L xs (w32 (l3 + 2)) fun v2 =>
  hcallV 9 l1 (m_X9_left l1 v1 v2) fun v3 =>
  hscr L xs (w32 (l3 + 1)) fun v4 =>
  hscr L xs (w32 (l3 + 2)) fun v5 =>
  hcallV 10 l2 (m_X10_left l2 v4 v5) fun v6 =>
  hif (v3 = v6) (k18 l1 l2 (w32 (l3 + 6))) (hretZ 0)
theorem z_L_c5 {C : hCx} (hR9 : C.2.2.2.2.1 = room_1) (X : hOK C cL_law RL 4 (some .boolean)) {b L : Nat} {xs : Nat → Int32} (hX : va_X b L xs C.2.2.2.2.2.1 C.1.2.1) (hb : b ≤ C.1.1) (hL : L ≤ 3072) (k18 : Nat → Nat → Int → hM) (hk18 : ∀ (l1 l2 : Nat) (l3 : Int), inI l3 → ∀ (cells slots : Nat), (cells : Int) ≤ 300 + 3 * l3 → (slots : Int) ≤ 17000 + 35 * l3 → hSim C (some .boolean) 600000 7302250 4 18 [(0, .ref b), (1, vR C.1.1 l1), (2, vR C.1.1 l2), (3, vI l3)] [] cells slots (k18 l1 l2 l3)) (l1 l2 : Nat) (l3 : Int) (h3 : inI l3) (p3 : 0 ≤ l3 ∧ l3 ≤ 4000) (cells slots : Nat) (e1 : (cells : Int) ≤ 300 + 3 * l3) (e2 : (slots : Int) ≤ 17000 + 35 * l3) : hSim C (some .boolean) 600000 7302250 4 309 [(0, .ref b), (1, vR C.1.1 l1), (2, vR C.1.1 l2), (3, vI l3)] [] cells slots (m_L_c5 L xs k18 l1 l2 l3) := by
  have hc1 : C.2.2.2.2.1.cells = 600000 := by rw [hR9]; rfl
  have hc2 : C.2.2.2.2.1.slots = 7302250 := by rw [hR9]; rfl
  have hf : 60 + 1 ≤ C.2.2.2.2.1.frames := by rw [hR9]; exact Nat.le_of_ble_eq_true rfl
  have hlo : 50 * 60 + 50 ≤ C.2.2.2.2.1.locals := by rw [hR9]; exact Nat.le_of_ble_eq_true rfl
  have w6 : w32 (l3 + 6) = l3 + 6 := w32_id ⟨by omega, by omega⟩
  unfold m_L_c5
  refine s_aload_n (j := 1) (pc2 := 310) X dL_law_309 rfl rfl ?_
  refine s_sload_n (j := 0) (pc2 := 311) X dL_law_310 rfl rfl ?_
  refine s_iload_n (j := 3) (pc2 := 312) X dL_law_311 rfl rfl ?_
  refine s_iconst (n := 1) (pc2 := 313) X dL_law_312 rfl ?_
  refine s_iadd (pc2 := 314) X dL_law_313 rfl ?_
  refine s_sld (pc2 := 315) X hX hb hL dL_law_314 rfl (fun v1 hv1 => ?_)
  refine s_sload_n (j := 0) (pc2 := 316) X dL_law_315 rfl rfl ?_
  refine s_iload_n (j := 3) (pc2 := 317) X dL_law_316 rfl rfl ?_
  refine s_iconst (n := 2) (pc2 := 318) X dL_law_317 rfl ?_
  refine s_iadd (pc2 := 319) X dL_law_318 rfl ?_
  refine s_sld (pc2 := 320) X hX hb hL dL_law_319 rfl (fun v2 hv2 => ?_)
  refine s_callVI (d2 := 60) (As := [vI v1, vI v2]) (st := []) (pc2 := 323) X dL_law_320 rfl ml_RL_37 im_X9_left se_X9_left kX9 rfl (c_X9_left 60 (by decide) C.1 C.2.2.1 l1 v1 v2 hv1 hv2) hy_X9_left rfl rfl hf hlo (st_room (Nat.le_of_ble_eq_true rfl)) ⟨by rw [hc1]; omega, by rw [hc2]; omega⟩ (fun v3 hv3 => ?_)
  refine s_aload_n (j := 2) (pc2 := 324) X dL_law_323 rfl rfl ?_
  refine s_sload_n (j := 0) (pc2 := 325) X dL_law_324 rfl rfl ?_
  refine s_iload_n (j := 3) (pc2 := 326) X dL_law_325 rfl rfl ?_
  refine s_iconst (n := 1) (pc2 := 327) X dL_law_326 rfl ?_
  refine s_iadd (pc2 := 328) X dL_law_327 rfl ?_
  refine s_sld (pc2 := 329) X hX hb hL dL_law_328 rfl (fun v4 hv4 => ?_)
  refine s_sload_n (j := 0) (pc2 := 330) X dL_law_329 rfl rfl ?_
  refine s_iload_n (j := 3) (pc2 := 331) X dL_law_330 rfl rfl ?_
  refine s_iconst (n := 2) (pc2 := 332) X dL_law_331 rfl ?_
  refine s_iadd (pc2 := 333) X dL_law_332 rfl ?_
  refine s_sld (pc2 := 334) X hX hb hL dL_law_333 rfl (fun v5 hv5 => ?_)
  refine s_callVI (d2 := 60) (As := [vI v4, vI v5]) (st := [vI v3]) (pc2 := 337) X dL_law_334 rfl ml_RL_40 im_X10_left se_X10_left kX10 rfl (c_X10_left 60 (by decide) C.1 C.2.2.1 l2 v4 v5 hv4 hv5) hy_X10_left rfl rfl hf hlo (st_room (Nat.le_of_ble_eq_true rfl)) ⟨by rw [hc1]; omega, by rw [hc2]; omega⟩ (fun v6 hv6 => ?_)
  refine s_iceq (tgt := 1051) (pc2 := 340) X dL_law_337 (by decide) rfl hv3 hv6 ?_ ?_
  · refine s_iincK (j := 3) (y := w32 (l3 + 6)) (pc2 := 1054) X dL_law_1051 rfl (by decide) rfl rfl rfl rfl cat1_R ?_
    refine s_goto (pc2 := 18) X dL_law_1054 (by decide) ?_
    refine s_sub (lv2 := [(0, .ref b), (1, vR C.1.1 l1), (2, vR C.1.1 l2), (3, vI (w32 (l3 + 6)))]) [1, 2, 3, 0] rfl ?_
    exact hk18 l1 l2 _ (w32_in _) _ _ (by omega) (by omega)
  · refine s_iconst (n := 0) (pc2 := 341) X dL_law_340 rfl ?_
    refine s_widen 600000 7302250 (by omega) (by omega) ?_
    exact s_zret X dL_law_341
set_option maxRecDepth 4000 in
def m_L_c6 (L : Nat) (xs : Nat → Int32) (k18 : Nat → Nat → Int → hM) (l1 l2 : Nat) (l3 : Int) : hM :=
  hscr L xs (w32 (l3 + 1)) fun v1 =>
  hscr L xs (w32 (l3 + 2)) fun v2 =>
  hcallV 9 l1 (m_X9_bridge l1 v1 v2) fun v3 =>
  hscr L xs (w32 (l3 + 1)) fun v4 =>
  hscr L xs (w32 (l3 + 2)) fun v5 =>
  hcallV 10 l2 (m_X10_bridge l2 v4 v5) fun v6 =>
  hif (v3 = v6) (k18 l1 l2 (w32 (l3 + 6))) (hretZ 0)
theorem z_L_c6 {C : hCx} (hR9 : C.2.2.2.2.1 = room_1) (X : hOK C cL_law RL 4 (some .boolean)) {b L : Nat} {xs : Nat → Int32} (hX : va_X b L xs C.2.2.2.2.2.1 C.1.2.1) (hb : b ≤ C.1.1) (hL : L ≤ 3072) (k18 : Nat → Nat → Int → hM) (hk18 : ∀ (l1 l2 : Nat) (l3 : Int), inI l3 → ∀ (cells slots : Nat), (cells : Int) ≤ 300 + 3 * l3 → (slots : Int) ≤ 17000 + 35 * l3 → hSim C (some .boolean) 600000 7302250 4 18 [(0, .ref b), (1, vR C.1.1 l1), (2, vR C.1.1 l2), (3, vI l3)] [] cells slots (k18 l1 l2 l3)) (l1 l2 : Nat) (l3 : Int) (h3 : inI l3) (p3 : 0 ≤ l3 ∧ l3 ≤ 4000) (cells slots : Nat) (e1 : (cells : Int) ≤ 300 + 3 * l3) (e2 : (slots : Int) ≤ 17000 + 35 * l3) : hSim C (some .boolean) 600000 7302250 4 342 [(0, .ref b), (1, vR C.1.1 l1), (2, vR C.1.1 l2), (3, vI l3)] [] cells slots (m_L_c6 L xs k18 l1 l2 l3) := by
  have hc1 : C.2.2.2.2.1.cells = 600000 := by rw [hR9]; rfl
  have hc2 : C.2.2.2.2.1.slots = 7302250 := by rw [hR9]; rfl
  have hf : 60 + 1 ≤ C.2.2.2.2.1.frames := by rw [hR9]; exact Nat.le_of_ble_eq_true rfl
  have hlo : 50 * 60 + 50 ≤ C.2.2.2.2.1.locals := by rw [hR9]; exact Nat.le_of_ble_eq_true rfl
  have w6 : w32 (l3 + 6) = l3 + 6 := w32_id ⟨by omega, by omega⟩
  unfold m_L_c6
  refine s_aload_n (j := 1) (pc2 := 343) X dL_law_342 rfl rfl ?_
  refine s_sload_n (j := 0) (pc2 := 344) X dL_law_343 rfl rfl ?_
  refine s_iload_n (j := 3) (pc2 := 345) X dL_law_344 rfl rfl ?_
  refine s_iconst (n := 1) (pc2 := 346) X dL_law_345 rfl ?_
  refine s_iadd (pc2 := 347) X dL_law_346 rfl ?_
  refine s_sld (pc2 := 348) X hX hb hL dL_law_347 rfl (fun v1 hv1 => ?_)
  refine s_sload_n (j := 0) (pc2 := 349) X dL_law_348 rfl rfl ?_
  refine s_iload_n (j := 3) (pc2 := 350) X dL_law_349 rfl rfl ?_
  refine s_iconst (n := 2) (pc2 := 351) X dL_law_350 rfl ?_
  refine s_iadd (pc2 := 352) X dL_law_351 rfl ?_
  refine s_sld (pc2 := 353) X hX hb hL dL_law_352 rfl (fun v2 hv2 => ?_)
  refine s_callVI (d2 := 60) (As := [vI v1, vI v2]) (st := []) (pc2 := 356) X dL_law_353 rfl ml_RL_41 im_X9_bridge se_X9_bridge kX9 rfl (c_X9_bridge 60 (by decide) C.1 C.2.2.1 l1 v1 v2 hv1 hv2) hy_X9_bridge rfl rfl hf hlo (st_room (Nat.le_of_ble_eq_true rfl)) ⟨by rw [hc1]; omega, by rw [hc2]; omega⟩ (fun v3 hv3 => ?_)
  refine s_aload_n (j := 2) (pc2 := 357) X dL_law_356 rfl rfl ?_
  refine s_sload_n (j := 0) (pc2 := 358) X dL_law_357 rfl rfl ?_
  refine s_iload_n (j := 3) (pc2 := 359) X dL_law_358 rfl rfl ?_
  refine s_iconst (n := 1) (pc2 := 360) X dL_law_359 rfl ?_
  refine s_iadd (pc2 := 361) X dL_law_360 rfl ?_
  refine s_sld (pc2 := 362) X hX hb hL dL_law_361 rfl (fun v4 hv4 => ?_)
  refine s_sload_n (j := 0) (pc2 := 363) X dL_law_362 rfl rfl ?_
  refine s_iload_n (j := 3) (pc2 := 364) X dL_law_363 rfl rfl ?_
  refine s_iconst (n := 2) (pc2 := 365) X dL_law_364 rfl ?_
  refine s_iadd (pc2 := 366) X dL_law_365 rfl ?_
  refine s_sld (pc2 := 367) X hX hb hL dL_law_366 rfl (fun v5 hv5 => ?_)
  refine s_callVI (d2 := 60) (As := [vI v4, vI v5]) (st := [vI v3]) (pc2 := 370) X dL_law_367 rfl ml_RL_44 im_X10_bridge se_X10_bridge kX10 rfl (c_X10_bridge 60 (by decide) C.1 C.2.2.1 l2 v4 v5 hv4 hv5) hy_X10_bridge rfl rfl hf hlo (st_room (Nat.le_of_ble_eq_true rfl)) ⟨by rw [hc1]; omega, by rw [hc2]; omega⟩ (fun v6 hv6 => ?_)
  refine s_iceq (tgt := 1051) (pc2 := 373) X dL_law_370 (by decide) rfl hv3 hv6 ?_ ?_
  · refine s_iincK (j := 3) (y := w32 (l3 + 6)) (pc2 := 1054) X dL_law_1051 rfl (by decide) rfl rfl rfl rfl cat1_R ?_
    refine s_goto (pc2 := 18) X dL_law_1054 (by decide) ?_
    refine s_sub (lv2 := [(0, .ref b), (1, vR C.1.1 l1), (2, vR C.1.1 l2), (3, vI (w32 (l3 + 6)))]) [1, 2, 3, 0] rfl ?_
    exact hk18 l1 l2 _ (w32_in _) _ _ (by omega) (by omega)
  · refine s_iconst (n := 0) (pc2 := 374) X dL_law_373 rfl ?_
    refine s_widen 600000 7302250 (by omega) (by omega) ?_
    exact s_zret X dL_law_374
set_option maxRecDepth 4000 in
def m_L_c7 (L : Nat) (xs : Nat → Int32) (k18 : Nat → Nat → Int → hM) (l1 l2 : Nat) (l3 : Int) : hM :=
  hscr L xs (w32 (l3 + 1)) fun v1 =>
  hscr L xs (w32 (l3 + 2)) fun v2 =>
  hcallV 9 l1 (m_X9_cross l1 v1 v2) fun v3 =>
  hscr L xs (w32 (l3 + 1)) fun v4 =>
  hscr L xs (w32 (l3 + 2)) fun v5 =>
  hcallV 10 l2 (m_X10_cross l2 v4 v5) fun v6 =>
  hif (v3 = v6) (k18 l1 l2 (w32 (l3 + 6))) (hretZ 0)
theorem z_L_c7 {C : hCx} (hR9 : C.2.2.2.2.1 = room_1) (X : hOK C cL_law RL 4 (some .boolean)) {b L : Nat} {xs : Nat → Int32} (hX : va_X b L xs C.2.2.2.2.2.1 C.1.2.1) (hb : b ≤ C.1.1) (hL : L ≤ 3072) (k18 : Nat → Nat → Int → hM) (hk18 : ∀ (l1 l2 : Nat) (l3 : Int), inI l3 → ∀ (cells slots : Nat), (cells : Int) ≤ 300 + 3 * l3 → (slots : Int) ≤ 17000 + 35 * l3 → hSim C (some .boolean) 600000 7302250 4 18 [(0, .ref b), (1, vR C.1.1 l1), (2, vR C.1.1 l2), (3, vI l3)] [] cells slots (k18 l1 l2 l3)) (l1 l2 : Nat) (l3 : Int) (h3 : inI l3) (p3 : 0 ≤ l3 ∧ l3 ≤ 4000) (cells slots : Nat) (e1 : (cells : Int) ≤ 300 + 3 * l3) (e2 : (slots : Int) ≤ 17000 + 35 * l3) : hSim C (some .boolean) 600000 7302250 4 375 [(0, .ref b), (1, vR C.1.1 l1), (2, vR C.1.1 l2), (3, vI l3)] [] cells slots (m_L_c7 L xs k18 l1 l2 l3) := by
  have hc1 : C.2.2.2.2.1.cells = 600000 := by rw [hR9]; rfl
  have hc2 : C.2.2.2.2.1.slots = 7302250 := by rw [hR9]; rfl
  have hf : 60 + 1 ≤ C.2.2.2.2.1.frames := by rw [hR9]; exact Nat.le_of_ble_eq_true rfl
  have hlo : 50 * 60 + 50 ≤ C.2.2.2.2.1.locals := by rw [hR9]; exact Nat.le_of_ble_eq_true rfl
  have w6 : w32 (l3 + 6) = l3 + 6 := w32_id ⟨by omega, by omega⟩
  unfold m_L_c7
  refine s_aload_n (j := 1) (pc2 := 376) X dL_law_375 rfl rfl ?_
  refine s_sload_n (j := 0) (pc2 := 377) X dL_law_376 rfl rfl ?_
  refine s_iload_n (j := 3) (pc2 := 378) X dL_law_377 rfl rfl ?_
  refine s_iconst (n := 1) (pc2 := 379) X dL_law_378 rfl ?_
  refine s_iadd (pc2 := 380) X dL_law_379 rfl ?_
  refine s_sld (pc2 := 381) X hX hb hL dL_law_380 rfl (fun v1 hv1 => ?_)
  refine s_sload_n (j := 0) (pc2 := 382) X dL_law_381 rfl rfl ?_
  refine s_iload_n (j := 3) (pc2 := 383) X dL_law_382 rfl rfl ?_
  refine s_iconst (n := 2) (pc2 := 384) X dL_law_383 rfl ?_
  refine s_iadd (pc2 := 385) X dL_law_384 rfl ?_
  refine s_sld (pc2 := 386) X hX hb hL dL_law_385 rfl (fun v2 hv2 => ?_)
  refine s_callVI (d2 := 60) (As := [vI v1, vI v2]) (st := []) (pc2 := 389) X dL_law_386 rfl ml_RL_45 im_X9_cross se_X9_cross kX9 rfl (c_X9_cross 60 (by decide) C.1 C.2.2.1 l1 v1 v2 hv1 hv2) hy_X9_cross rfl rfl hf hlo (st_room (Nat.le_of_ble_eq_true rfl)) ⟨by rw [hc1]; omega, by rw [hc2]; omega⟩ (fun v3 hv3 => ?_)
  refine s_aload_n (j := 2) (pc2 := 390) X dL_law_389 rfl rfl ?_
  refine s_sload_n (j := 0) (pc2 := 391) X dL_law_390 rfl rfl ?_
  refine s_iload_n (j := 3) (pc2 := 392) X dL_law_391 rfl rfl ?_
  refine s_iconst (n := 1) (pc2 := 393) X dL_law_392 rfl ?_
  refine s_iadd (pc2 := 394) X dL_law_393 rfl ?_
  refine s_sld (pc2 := 395) X hX hb hL dL_law_394 rfl (fun v4 hv4 => ?_)
  refine s_sload_n (j := 0) (pc2 := 396) X dL_law_395 rfl rfl ?_
  refine s_iload_n (j := 3) (pc2 := 397) X dL_law_396 rfl rfl ?_
  refine s_iconst (n := 2) (pc2 := 398) X dL_law_397 rfl ?_
  refine s_iadd (pc2 := 399) X dL_law_398 rfl ?_
  refine s_sld (pc2 := 400) X hX hb hL dL_law_399 rfl (fun v5 hv5 => ?_)
  refine s_callVI (d2 := 60) (As := [vI v4, vI v5]) (st := [vI v3]) (pc2 := 403) X dL_law_400 rfl ml_RL_48 im_X10_cross se_X10_cross kX10 rfl (c_X10_cross 60 (by decide) C.1 C.2.2.1 l2 v4 v5 hv4 hv5) hy_X10_cross rfl rfl hf hlo (st_room (Nat.le_of_ble_eq_true rfl)) ⟨by rw [hc1]; omega, by rw [hc2]; omega⟩ (fun v6 hv6 => ?_)
  refine s_iceq (tgt := 1051) (pc2 := 406) X dL_law_403 (by decide) rfl hv3 hv6 ?_ ?_
  · refine s_iincK (j := 3) (y := w32 (l3 + 6)) (pc2 := 1054) X dL_law_1051 rfl (by decide) rfl rfl rfl rfl cat1_R ?_
    refine s_goto (pc2 := 18) X dL_law_1054 (by decide) ?_
    refine s_sub (lv2 := [(0, .ref b), (1, vR C.1.1 l1), (2, vR C.1.1 l2), (3, vI (w32 (l3 + 6)))]) [1, 2, 3, 0] rfl ?_
    exact hk18 l1 l2 _ (w32_in _) _ _ (by omega) (by omega)
  · refine s_iconst (n := 0) (pc2 := 407) X dL_law_406 rfl ?_
    refine s_widen 600000 7302250 (by omega) (by omega) ?_
    exact s_zret X dL_law_407
set_option maxRecDepth 4000 in
def m_L_c8 (L : Nat) (xs : Nat → Int32) (k18 : Nat → Nat → Int → hM) (l1 l2 : Nat) (l3 : Int) : hM :=
  hscr L xs (w32 (l3 + 1)) fun v1 =>
  hscr L xs (w32 (l3 + 2)) fun v2 =>
  hcallV 9 l1 (m_X9_sail l1 v1 v2) fun v3 =>
  hscr L xs (w32 (l3 + 1)) fun v4 =>
  hscr L xs (w32 (l3 + 2)) fun v5 =>
  hcallV 10 l2 (m_X10_sail l2 v4 v5) fun v6 =>
  hif (v3 = v6) (k18 l1 l2 (w32 (l3 + 6))) (hretZ 0)
theorem z_L_c8 {C : hCx} (hR9 : C.2.2.2.2.1 = room_1) (X : hOK C cL_law RL 4 (some .boolean)) {b L : Nat} {xs : Nat → Int32} (hX : va_X b L xs C.2.2.2.2.2.1 C.1.2.1) (hb : b ≤ C.1.1) (hL : L ≤ 3072) (k18 : Nat → Nat → Int → hM) (hk18 : ∀ (l1 l2 : Nat) (l3 : Int), inI l3 → ∀ (cells slots : Nat), (cells : Int) ≤ 300 + 3 * l3 → (slots : Int) ≤ 17000 + 35 * l3 → hSim C (some .boolean) 600000 7302250 4 18 [(0, .ref b), (1, vR C.1.1 l1), (2, vR C.1.1 l2), (3, vI l3)] [] cells slots (k18 l1 l2 l3)) (l1 l2 : Nat) (l3 : Int) (h3 : inI l3) (p3 : 0 ≤ l3 ∧ l3 ≤ 4000) (cells slots : Nat) (e1 : (cells : Int) ≤ 300 + 3 * l3) (e2 : (slots : Int) ≤ 17000 + 35 * l3) : hSim C (some .boolean) 600000 7302250 4 408 [(0, .ref b), (1, vR C.1.1 l1), (2, vR C.1.1 l2), (3, vI l3)] [] cells slots (m_L_c8 L xs k18 l1 l2 l3) := by
  have hc1 : C.2.2.2.2.1.cells = 600000 := by rw [hR9]; rfl
  have hc2 : C.2.2.2.2.1.slots = 7302250 := by rw [hR9]; rfl
  have hf : 60 + 1 ≤ C.2.2.2.2.1.frames := by rw [hR9]; exact Nat.le_of_ble_eq_true rfl
  have hlo : 50 * 60 + 50 ≤ C.2.2.2.2.1.locals := by rw [hR9]; exact Nat.le_of_ble_eq_true rfl
  have w6 : w32 (l3 + 6) = l3 + 6 := w32_id ⟨by omega, by omega⟩
  unfold m_L_c8
  refine s_aload_n (j := 1) (pc2 := 409) X dL_law_408 rfl rfl ?_
  refine s_sload_n (j := 0) (pc2 := 410) X dL_law_409 rfl rfl ?_
  refine s_iload_n (j := 3) (pc2 := 411) X dL_law_410 rfl rfl ?_
  refine s_iconst (n := 1) (pc2 := 412) X dL_law_411 rfl ?_
  refine s_iadd (pc2 := 413) X dL_law_412 rfl ?_
  refine s_sld (pc2 := 414) X hX hb hL dL_law_413 rfl (fun v1 hv1 => ?_)
  refine s_sload_n (j := 0) (pc2 := 415) X dL_law_414 rfl rfl ?_
  refine s_iload_n (j := 3) (pc2 := 416) X dL_law_415 rfl rfl ?_
  refine s_iconst (n := 2) (pc2 := 417) X dL_law_416 rfl ?_
  refine s_iadd (pc2 := 418) X dL_law_417 rfl ?_
  refine s_sld (pc2 := 419) X hX hb hL dL_law_418 rfl (fun v2 hv2 => ?_)
  refine s_callVI (d2 := 60) (As := [vI v1, vI v2]) (st := []) (pc2 := 422) X dL_law_419 rfl ml_RL_49 im_X9_sail se_X9_sail kX9 rfl (c_X9_sail 60 (by decide) C.1 C.2.2.1 l1 v1 v2 hv1 hv2) hy_X9_sail rfl rfl hf hlo (st_room (Nat.le_of_ble_eq_true rfl)) ⟨by rw [hc1]; omega, by rw [hc2]; omega⟩ (fun v3 hv3 => ?_)
  refine s_aload_n (j := 2) (pc2 := 423) X dL_law_422 rfl rfl ?_
  refine s_sload_n (j := 0) (pc2 := 424) X dL_law_423 rfl rfl ?_
  refine s_iload_n (j := 3) (pc2 := 425) X dL_law_424 rfl rfl ?_
  refine s_iconst (n := 1) (pc2 := 426) X dL_law_425 rfl ?_
  refine s_iadd (pc2 := 427) X dL_law_426 rfl ?_
  refine s_sld (pc2 := 428) X hX hb hL dL_law_427 rfl (fun v4 hv4 => ?_)
  refine s_sload_n (j := 0) (pc2 := 429) X dL_law_428 rfl rfl ?_
  refine s_iload_n (j := 3) (pc2 := 430) X dL_law_429 rfl rfl ?_
  refine s_iconst (n := 2) (pc2 := 431) X dL_law_430 rfl ?_
  refine s_iadd (pc2 := 432) X dL_law_431 rfl ?_
  refine s_sld (pc2 := 433) X hX hb hL dL_law_432 rfl (fun v5 hv5 => ?_)
  refine s_callVI (d2 := 60) (As := [vI v4, vI v5]) (st := [vI v3]) (pc2 := 436) X dL_law_433 rfl ml_RL_52 im_X10_sail se_X10_sail kX10 rfl (c_X10_sail 60 (by decide) C.1 C.2.2.1 l2 v4 v5 hv4 hv5) hy_X10_sail rfl rfl hf hlo (st_room (Nat.le_of_ble_eq_true rfl)) ⟨by rw [hc1]; omega, by rw [hc2]; omega⟩ (fun v6 hv6 => ?_)
  refine s_iceq (tgt := 1051) (pc2 := 439) X dL_law_436 (by decide) rfl hv3 hv6 ?_ ?_
  · refine s_iincK (j := 3) (y := w32 (l3 + 6)) (pc2 := 1054) X dL_law_1051 rfl (by decide) rfl rfl rfl rfl cat1_R ?_
    refine s_goto (pc2 := 18) X dL_law_1054 (by decide) ?_
    refine s_sub (lv2 := [(0, .ref b), (1, vR C.1.1 l1), (2, vR C.1.1 l2), (3, vI (w32 (l3 + 6)))]) [1, 2, 3, 0] rfl ?_
    exact hk18 l1 l2 _ (w32_in _) _ _ (by omega) (by omega)
  · refine s_iconst (n := 0) (pc2 := 440) X dL_law_439 rfl ?_
    refine s_widen 600000 7302250 (by omega) (by omega) ?_
    exact s_zret X dL_law_440
set_option maxRecDepth 4000 in
def m_L_c9 (L : Nat) (xs : Nat → Int32) (k18 : Nat → Nat → Int → hM) (l1 l2 : Nat) (l3 : Int) : hM :=
  hscr L xs (w32 (l3 + 1)) fun v1 =>
  hscr L xs (w32 (l3 + 2)) fun v2 =>
  hscr L xs (w32 (l3 + 3)) fun v3 =>
  hcallV 9 l1 (m_X9_carry l1 v1 v2 v3) fun v4 =>
  hscr L xs (w32 (l3 + 1)) fun v5 =>
  hscr L xs (w32 (l3 + 2)) fun v6 =>
  hscr L xs (w32 (l3 + 3)) fun v7 =>
  hcallV 10 l2 (m_X10_carry l2 v5 v6 v7) fun v8 =>
  hif (v4 = v8) (k18 l1 l2 (w32 (l3 + 6))) (hretZ 0)
theorem z_L_c9 {C : hCx} (hR9 : C.2.2.2.2.1 = room_1) (X : hOK C cL_law RL 4 (some .boolean)) {b L : Nat} {xs : Nat → Int32} (hX : va_X b L xs C.2.2.2.2.2.1 C.1.2.1) (hb : b ≤ C.1.1) (hL : L ≤ 3072) (k18 : Nat → Nat → Int → hM) (hk18 : ∀ (l1 l2 : Nat) (l3 : Int), inI l3 → ∀ (cells slots : Nat), (cells : Int) ≤ 300 + 3 * l3 → (slots : Int) ≤ 17000 + 35 * l3 → hSim C (some .boolean) 600000 7302250 4 18 [(0, .ref b), (1, vR C.1.1 l1), (2, vR C.1.1 l2), (3, vI l3)] [] cells slots (k18 l1 l2 l3)) (l1 l2 : Nat) (l3 : Int) (h3 : inI l3) (p3 : 0 ≤ l3 ∧ l3 ≤ 4000) (cells slots : Nat) (e1 : (cells : Int) ≤ 300 + 3 * l3) (e2 : (slots : Int) ≤ 17000 + 35 * l3) : hSim C (some .boolean) 600000 7302250 4 441 [(0, .ref b), (1, vR C.1.1 l1), (2, vR C.1.1 l2), (3, vI l3)] [] cells slots (m_L_c9 L xs k18 l1 l2 l3) := by
  have hc1 : C.2.2.2.2.1.cells = 600000 := by rw [hR9]; rfl
  have hc2 : C.2.2.2.2.1.slots = 7302250 := by rw [hR9]; rfl
  have hf : 60 + 1 ≤ C.2.2.2.2.1.frames := by rw [hR9]; exact Nat.le_of_ble_eq_true rfl
  have hlo : 50 * 60 + 50 ≤ C.2.2.2.2.1.locals := by rw [hR9]; exact Nat.le_of_ble_eq_true rfl
  have w6 : w32 (l3 + 6) = l3 + 6 := w32_id ⟨by omega, by omega⟩
  unfold m_L_c9
  refine s_aload_n (j := 1) (pc2 := 442) X dL_law_441 rfl rfl ?_
  refine s_sload_n (j := 0) (pc2 := 443) X dL_law_442 rfl rfl ?_
  refine s_iload_n (j := 3) (pc2 := 444) X dL_law_443 rfl rfl ?_
  refine s_iconst (n := 1) (pc2 := 445) X dL_law_444 rfl ?_
  refine s_iadd (pc2 := 446) X dL_law_445 rfl ?_
  refine s_sld (pc2 := 447) X hX hb hL dL_law_446 rfl (fun v1 hv1 => ?_)
  refine s_sload_n (j := 0) (pc2 := 448) X dL_law_447 rfl rfl ?_
  refine s_iload_n (j := 3) (pc2 := 449) X dL_law_448 rfl rfl ?_
  refine s_iconst (n := 2) (pc2 := 450) X dL_law_449 rfl ?_
  refine s_iadd (pc2 := 451) X dL_law_450 rfl ?_
  refine s_sld (pc2 := 452) X hX hb hL dL_law_451 rfl (fun v2 hv2 => ?_)
  refine s_sload_n (j := 0) (pc2 := 453) X dL_law_452 rfl rfl ?_
  refine s_iload_n (j := 3) (pc2 := 454) X dL_law_453 rfl rfl ?_
  refine s_iconst (n := 3) (pc2 := 455) X dL_law_454 rfl ?_
  refine s_iadd (pc2 := 456) X dL_law_455 rfl ?_
  refine s_sld (pc2 := 457) X hX hb hL dL_law_456 rfl (fun v3 hv3 => ?_)
  refine s_callVI (d2 := 60) (As := [vI v1, vI v2, vI v3]) (st := []) (pc2 := 460) X dL_law_457 rfl ml_RL_53 im_X9_carry se_X9_carry kX9 rfl (c_X9_carry 60 (by decide) C.1 C.2.2.1 l1 v1 v2 v3 hv1 hv2 hv3) hy_X9_carry rfl rfl hf hlo (st_room (Nat.le_of_ble_eq_true rfl)) ⟨by rw [hc1]; omega, by rw [hc2]; omega⟩ (fun v4 hv4 => ?_)
  refine s_aload_n (j := 2) (pc2 := 461) X dL_law_460 rfl rfl ?_
  refine s_sload_n (j := 0) (pc2 := 462) X dL_law_461 rfl rfl ?_
  refine s_iload_n (j := 3) (pc2 := 463) X dL_law_462 rfl rfl ?_
  refine s_iconst (n := 1) (pc2 := 464) X dL_law_463 rfl ?_
  refine s_iadd (pc2 := 465) X dL_law_464 rfl ?_
  refine s_sld (pc2 := 466) X hX hb hL dL_law_465 rfl (fun v5 hv5 => ?_)
  refine s_sload_n (j := 0) (pc2 := 467) X dL_law_466 rfl rfl ?_
  refine s_iload_n (j := 3) (pc2 := 468) X dL_law_467 rfl rfl ?_
  refine s_iconst (n := 2) (pc2 := 469) X dL_law_468 rfl ?_
  refine s_iadd (pc2 := 470) X dL_law_469 rfl ?_
  refine s_sld (pc2 := 471) X hX hb hL dL_law_470 rfl (fun v6 hv6 => ?_)
  refine s_sload_n (j := 0) (pc2 := 472) X dL_law_471 rfl rfl ?_
  refine s_iload_n (j := 3) (pc2 := 473) X dL_law_472 rfl rfl ?_
  refine s_iconst (n := 3) (pc2 := 474) X dL_law_473 rfl ?_
  refine s_iadd (pc2 := 475) X dL_law_474 rfl ?_
  refine s_sld (pc2 := 476) X hX hb hL dL_law_475 rfl (fun v7 hv7 => ?_)
  refine s_callVI (d2 := 60) (As := [vI v5, vI v6, vI v7]) (st := [vI v4]) (pc2 := 479) X dL_law_476 rfl ml_RL_57 im_X10_carry se_X10_carry kX10 rfl (c_X10_carry 60 (by decide) C.1 C.2.2.1 l2 v5 v6 v7 hv5 hv6 hv7) hy_X10_carry rfl rfl hf hlo (st_room (Nat.le_of_ble_eq_true rfl)) ⟨by rw [hc1]; omega, by rw [hc2]; omega⟩ (fun v8 hv8 => ?_)
  refine s_iceq (tgt := 1051) (pc2 := 482) X dL_law_479 (by decide) rfl hv4 hv8 ?_ ?_
  · refine s_iincK (j := 3) (y := w32 (l3 + 6)) (pc2 := 1054) X dL_law_1051 rfl (by decide) rfl rfl rfl rfl cat1_R ?_
    refine s_goto (pc2 := 18) X dL_law_1054 (by decide) ?_
    refine s_sub (lv2 := [(0, .ref b), (1, vR C.1.1 l1), (2, vR C.1.1 l2), (3, vI (w32 (l3 + 6)))]) [1, 2, 3, 0] rfl ?_
    exact hk18 l1 l2 _ (w32_in _) _ _ (by omega) (by omega)
  · refine s_iconst (n := 0) (pc2 := 483) X dL_law_482 rfl ?_
    refine s_widen 600000 7302250 (by omega) (by omega) ?_
    exact s_zret X dL_law_483
set_option maxRecDepth 4000 in
def m_L_c10 (L : Nat) (xs : Nat → Int32) (k18 : Nat → Nat → Int → hM) (l1 l2 : Nat) (l3 : Int) : hM :=
  hscr L xs (w32 (l3 + 1)) fun v1 =>
  hcallV 9 l1 (m_X9_rebuild l1 v1) fun v2 =>
  hscr L xs (w32 (l3 + 1)) fun v3 =>
  hcallV 10 l2 (m_X10_rebuild l2 v3) fun v4 =>
  hif (v2 = v4) (k18 l1 l2 (w32 (l3 + 6))) (hretZ 0)
theorem z_L_c10 {C : hCx} (hR9 : C.2.2.2.2.1 = room_1) (X : hOK C cL_law RL 4 (some .boolean)) {b L : Nat} {xs : Nat → Int32} (hX : va_X b L xs C.2.2.2.2.2.1 C.1.2.1) (hb : b ≤ C.1.1) (hL : L ≤ 3072) (k18 : Nat → Nat → Int → hM) (hk18 : ∀ (l1 l2 : Nat) (l3 : Int), inI l3 → ∀ (cells slots : Nat), (cells : Int) ≤ 300 + 3 * l3 → (slots : Int) ≤ 17000 + 35 * l3 → hSim C (some .boolean) 600000 7302250 4 18 [(0, .ref b), (1, vR C.1.1 l1), (2, vR C.1.1 l2), (3, vI l3)] [] cells slots (k18 l1 l2 l3)) (l1 l2 : Nat) (l3 : Int) (h3 : inI l3) (p3 : 0 ≤ l3 ∧ l3 ≤ 4000) (cells slots : Nat) (e1 : (cells : Int) ≤ 300 + 3 * l3) (e2 : (slots : Int) ≤ 17000 + 35 * l3) : hSim C (some .boolean) 600000 7302250 4 484 [(0, .ref b), (1, vR C.1.1 l1), (2, vR C.1.1 l2), (3, vI l3)] [] cells slots (m_L_c10 L xs k18 l1 l2 l3) := by
  have hc1 : C.2.2.2.2.1.cells = 600000 := by rw [hR9]; rfl
  have hc2 : C.2.2.2.2.1.slots = 7302250 := by rw [hR9]; rfl
  have hf : 60 + 1 ≤ C.2.2.2.2.1.frames := by rw [hR9]; exact Nat.le_of_ble_eq_true rfl
  have hlo : 50 * 60 + 50 ≤ C.2.2.2.2.1.locals := by rw [hR9]; exact Nat.le_of_ble_eq_true rfl
  have w6 : w32 (l3 + 6) = l3 + 6 := w32_id ⟨by omega, by omega⟩
  unfold m_L_c10
  refine s_aload_n (j := 1) (pc2 := 485) X dL_law_484 rfl rfl ?_
  refine s_sload_n (j := 0) (pc2 := 486) X dL_law_485 rfl rfl ?_
  refine s_iload_n (j := 3) (pc2 := 487) X dL_law_486 rfl rfl ?_
  refine s_iconst (n := 1) (pc2 := 488) X dL_law_487 rfl ?_
  refine s_iadd (pc2 := 489) X dL_law_488 rfl ?_
  refine s_sld (pc2 := 490) X hX hb hL dL_law_489 rfl (fun v1 hv1 => ?_)
  refine s_callVI (d2 := 60) (As := [vI v1]) (st := []) (pc2 := 493) X dL_law_490 rfl ml_RL_58 im_X9_rebuild se_X9_rebuild kX9 rfl (c_X9_rebuild 60 (by decide) C.1 C.2.2.1 l1 v1 hv1) hy_X9_rebuild rfl rfl hf hlo (st_room (Nat.le_of_ble_eq_true rfl)) ⟨by rw [hc1]; omega, by rw [hc2]; omega⟩ (fun v2 hv2 => ?_)
  refine s_aload_n (j := 2) (pc2 := 494) X dL_law_493 rfl rfl ?_
  refine s_sload_n (j := 0) (pc2 := 495) X dL_law_494 rfl rfl ?_
  refine s_iload_n (j := 3) (pc2 := 496) X dL_law_495 rfl rfl ?_
  refine s_iconst (n := 1) (pc2 := 497) X dL_law_496 rfl ?_
  refine s_iadd (pc2 := 498) X dL_law_497 rfl ?_
  refine s_sld (pc2 := 499) X hX hb hL dL_law_498 rfl (fun v3 hv3 => ?_)
  refine s_callVI (d2 := 60) (As := [vI v3]) (st := [vI v2]) (pc2 := 502) X dL_law_499 rfl ml_RL_61 im_X10_rebuild se_X10_rebuild kX10 rfl (c_X10_rebuild 60 (by decide) C.1 C.2.2.1 l2 v3 hv3) hy_X10_rebuild rfl rfl hf hlo (st_room (Nat.le_of_ble_eq_true rfl)) ⟨by rw [hc1]; omega, by rw [hc2]; omega⟩ (fun v4 hv4 => ?_)
  refine s_iceq (tgt := 1051) (pc2 := 505) X dL_law_502 (by decide) rfl hv2 hv4 ?_ ?_
  · refine s_iincK (j := 3) (y := w32 (l3 + 6)) (pc2 := 1054) X dL_law_1051 rfl (by decide) rfl rfl rfl rfl cat1_R ?_
    refine s_goto (pc2 := 18) X dL_law_1054 (by decide) ?_
    refine s_sub (lv2 := [(0, .ref b), (1, vR C.1.1 l1), (2, vR C.1.1 l2), (3, vI (w32 (l3 + 6)))]) [1, 2, 3, 0] rfl ?_
    exact hk18 l1 l2 _ (w32_in _) _ _ (by omega) (by omega)
  · refine s_iconst (n := 0) (pc2 := 506) X dL_law_505 rfl ?_
    refine s_widen 600000 7302250 (by omega) (by omega) ?_
    exact s_zret X dL_law_506
set_option maxRecDepth 4000 in
def m_L_c11 (L : Nat) (xs : Nat → Int32) (k18 : Nat → Nat → Int → hM) (l1 l2 : Nat) (l3 : Int) : hM :=
  hcallV 9 l1 (m_X9_day l1) fun v1 =>
  hcallV 10 l2 (m_X10_day l2) fun v2 =>
  hif (v1 = v2) (k18 l1 l2 (w32 (l3 + 6))) (hretZ 0)
theorem z_L_c11 {C : hCx} (hR9 : C.2.2.2.2.1 = room_1) (X : hOK C cL_law RL 4 (some .boolean)) {b L : Nat} {xs : Nat → Int32} (hX : va_X b L xs C.2.2.2.2.2.1 C.1.2.1) (hb : b ≤ C.1.1) (hL : L ≤ 3072) (k18 : Nat → Nat → Int → hM) (hk18 : ∀ (l1 l2 : Nat) (l3 : Int), inI l3 → ∀ (cells slots : Nat), (cells : Int) ≤ 300 + 3 * l3 → (slots : Int) ≤ 17000 + 35 * l3 → hSim C (some .boolean) 600000 7302250 4 18 [(0, .ref b), (1, vR C.1.1 l1), (2, vR C.1.1 l2), (3, vI l3)] [] cells slots (k18 l1 l2 l3)) (l1 l2 : Nat) (l3 : Int) (h3 : inI l3) (p3 : 0 ≤ l3 ∧ l3 ≤ 4000) (cells slots : Nat) (e1 : (cells : Int) ≤ 300 + 3 * l3) (e2 : (slots : Int) ≤ 17000 + 35 * l3) : hSim C (some .boolean) 600000 7302250 4 507 [(0, .ref b), (1, vR C.1.1 l1), (2, vR C.1.1 l2), (3, vI l3)] [] cells slots (m_L_c11 L xs k18 l1 l2 l3) := by
  have hc1 : C.2.2.2.2.1.cells = 600000 := by rw [hR9]; rfl
  have hc2 : C.2.2.2.2.1.slots = 7302250 := by rw [hR9]; rfl
  have hf : 60 + 1 ≤ C.2.2.2.2.1.frames := by rw [hR9]; exact Nat.le_of_ble_eq_true rfl
  have hlo : 50 * 60 + 50 ≤ C.2.2.2.2.1.locals := by rw [hR9]; exact Nat.le_of_ble_eq_true rfl
  have w6 : w32 (l3 + 6) = l3 + 6 := w32_id ⟨by omega, by omega⟩
  unfold m_L_c11
  refine s_aload_n (j := 1) (pc2 := 508) X dL_law_507 rfl rfl ?_
  refine s_callVI (d2 := 60) (As := []) (st := []) (pc2 := 511) X dL_law_508 rfl ml_RL_62 im_X9_day se_X9_day kX9 rfl (c_X9_day 60 (by decide) C.1 C.2.2.1 l1) hy_X9_day rfl rfl hf hlo (st_room (Nat.le_of_ble_eq_true rfl)) ⟨by rw [hc1]; omega, by rw [hc2]; omega⟩ (fun v1 hv1 => ?_)
  refine s_aload_n (j := 2) (pc2 := 512) X dL_law_511 rfl rfl ?_
  refine s_callVI (d2 := 60) (As := []) (st := [vI v1]) (pc2 := 515) X dL_law_512 rfl ml_RL_65 im_X10_day se_X10_day kX10 rfl (c_X10_day 60 (by decide) C.1 C.2.2.1 l2) hy_X10_day rfl rfl hf hlo (st_room (Nat.le_of_ble_eq_true rfl)) ⟨by rw [hc1]; omega, by rw [hc2]; omega⟩ (fun v2 hv2 => ?_)
  refine s_iceq (tgt := 1051) (pc2 := 518) X dL_law_515 (by decide) rfl hv1 hv2 ?_ ?_
  · refine s_iincK (j := 3) (y := w32 (l3 + 6)) (pc2 := 1054) X dL_law_1051 rfl (by decide) rfl rfl rfl rfl cat1_R ?_
    refine s_goto (pc2 := 18) X dL_law_1054 (by decide) ?_
    refine s_sub (lv2 := [(0, .ref b), (1, vR C.1.1 l1), (2, vR C.1.1 l2), (3, vI (w32 (l3 + 6)))]) [1, 2, 3, 0] rfl ?_
    exact hk18 l1 l2 _ (w32_in _) _ _ (by omega) (by omega)
  · refine s_iconst (n := 0) (pc2 := 519) X dL_law_518 rfl ?_
    refine s_widen 600000 7302250 (by omega) (by omega) ?_
    exact s_zret X dL_law_519
set_option maxRecDepth 4000 in
def m_L_c12 (L : Nat) (xs : Nat → Int32) (k18 : Nat → Nat → Int → hM) (l1 l2 : Nat) (l3 : Int) : hM :=
  hcallV 9 l1 (m_X9_undo l1) fun v1 =>
  hcallV 10 l2 (m_X10_undo l2) fun v2 =>
  hif (v1 = v2) (k18 l1 l2 (w32 (l3 + 6))) (hretZ 0)
theorem z_L_c12 {C : hCx} (hR9 : C.2.2.2.2.1 = room_1) (X : hOK C cL_law RL 4 (some .boolean)) {b L : Nat} {xs : Nat → Int32} (hX : va_X b L xs C.2.2.2.2.2.1 C.1.2.1) (hb : b ≤ C.1.1) (hL : L ≤ 3072) (k18 : Nat → Nat → Int → hM) (hk18 : ∀ (l1 l2 : Nat) (l3 : Int), inI l3 → ∀ (cells slots : Nat), (cells : Int) ≤ 300 + 3 * l3 → (slots : Int) ≤ 17000 + 35 * l3 → hSim C (some .boolean) 600000 7302250 4 18 [(0, .ref b), (1, vR C.1.1 l1), (2, vR C.1.1 l2), (3, vI l3)] [] cells slots (k18 l1 l2 l3)) (l1 l2 : Nat) (l3 : Int) (h3 : inI l3) (p3 : 0 ≤ l3 ∧ l3 ≤ 4000) (cells slots : Nat) (e1 : (cells : Int) ≤ 300 + 3 * l3) (e2 : (slots : Int) ≤ 17000 + 35 * l3) : hSim C (some .boolean) 600000 7302250 4 520 [(0, .ref b), (1, vR C.1.1 l1), (2, vR C.1.1 l2), (3, vI l3)] [] cells slots (m_L_c12 L xs k18 l1 l2 l3) := by
  have hc1 : C.2.2.2.2.1.cells = 600000 := by rw [hR9]; rfl
  have hc2 : C.2.2.2.2.1.slots = 7302250 := by rw [hR9]; rfl
  have hf : 60 + 1 ≤ C.2.2.2.2.1.frames := by rw [hR9]; exact Nat.le_of_ble_eq_true rfl
  have hlo : 50 * 60 + 50 ≤ C.2.2.2.2.1.locals := by rw [hR9]; exact Nat.le_of_ble_eq_true rfl
  have w6 : w32 (l3 + 6) = l3 + 6 := w32_id ⟨by omega, by omega⟩
  unfold m_L_c12
  refine s_aload_n (j := 1) (pc2 := 521) X dL_law_520 rfl rfl ?_
  refine s_callVI (d2 := 60) (As := []) (st := []) (pc2 := 524) X dL_law_521 rfl ml_RL_66 im_X9_undo se_X9_undo kX9 rfl (c_X9_undo 60 (by decide) C.1 C.2.2.1 l1) hy_X9_undo rfl rfl hf hlo (st_room (Nat.le_of_ble_eq_true rfl)) ⟨by rw [hc1]; omega, by rw [hc2]; omega⟩ (fun v1 hv1 => ?_)
  refine s_aload_n (j := 2) (pc2 := 525) X dL_law_524 rfl rfl ?_
  refine s_callVI (d2 := 60) (As := []) (st := [vI v1]) (pc2 := 528) X dL_law_525 rfl ml_RL_69 im_X10_undo se_X10_undo kX10 rfl (c_X10_undo 60 (by decide) C.1 C.2.2.1 l2) hy_X10_undo rfl rfl hf hlo (st_room (Nat.le_of_ble_eq_true rfl)) ⟨by rw [hc1]; omega, by rw [hc2]; omega⟩ (fun v2 hv2 => ?_)
  refine s_iceq (tgt := 1051) (pc2 := 531) X dL_law_528 (by decide) rfl hv1 hv2 ?_ ?_
  · refine s_iincK (j := 3) (y := w32 (l3 + 6)) (pc2 := 1054) X dL_law_1051 rfl (by decide) rfl rfl rfl rfl cat1_R ?_
    refine s_goto (pc2 := 18) X dL_law_1054 (by decide) ?_
    refine s_sub (lv2 := [(0, .ref b), (1, vR C.1.1 l1), (2, vR C.1.1 l2), (3, vI (w32 (l3 + 6)))]) [1, 2, 3, 0] rfl ?_
    exact hk18 l1 l2 _ (w32_in _) _ _ (by omega) (by omega)
  · refine s_iconst (n := 0) (pc2 := 532) X dL_law_531 rfl ?_
    refine s_widen 600000 7302250 (by omega) (by omega) ?_
    exact s_zret X dL_law_532
set_option maxRecDepth 4000 in
def m_L_c13 (L : Nat) (xs : Nat → Int32) (k18 : Nat → Nat → Int → hM) (l1 l2 : Nat) (l3 : Int) : hM :=
  hscr L xs (w32 (l3 + 1)) fun v1 =>
  hscr L xs (w32 (l3 + 2)) fun v2 =>
  hcallV 9 l1 (m_X9_run l1 v1 v2) fun v3 =>
  hscr L xs (w32 (l3 + 1)) fun v4 =>
  hscr L xs (w32 (l3 + 2)) fun v5 =>
  hcallV 10 l2 (m_X10_run l2 v4 v5) fun v6 =>
  hif (v3 = v6) (k18 l1 l2 (w32 (l3 + 6))) (hretZ 0)
theorem z_L_c13 {C : hCx} (hR9 : C.2.2.2.2.1 = room_1) (X : hOK C cL_law RL 4 (some .boolean)) {b L : Nat} {xs : Nat → Int32} (hX : va_X b L xs C.2.2.2.2.2.1 C.1.2.1) (hb : b ≤ C.1.1) (hL : L ≤ 3072) (k18 : Nat → Nat → Int → hM) (hk18 : ∀ (l1 l2 : Nat) (l3 : Int), inI l3 → ∀ (cells slots : Nat), (cells : Int) ≤ 300 + 3 * l3 → (slots : Int) ≤ 17000 + 35 * l3 → hSim C (some .boolean) 600000 7302250 4 18 [(0, .ref b), (1, vR C.1.1 l1), (2, vR C.1.1 l2), (3, vI l3)] [] cells slots (k18 l1 l2 l3)) (l1 l2 : Nat) (l3 : Int) (h3 : inI l3) (p3 : 0 ≤ l3 ∧ l3 ≤ 4000) (cells slots : Nat) (e1 : (cells : Int) ≤ 300 + 3 * l3) (e2 : (slots : Int) ≤ 17000 + 35 * l3) : hSim C (some .boolean) 600000 7302250 4 533 [(0, .ref b), (1, vR C.1.1 l1), (2, vR C.1.1 l2), (3, vI l3)] [] cells slots (m_L_c13 L xs k18 l1 l2 l3) := by
  have hc1 : C.2.2.2.2.1.cells = 600000 := by rw [hR9]; rfl
  have hc2 : C.2.2.2.2.1.slots = 7302250 := by rw [hR9]; rfl
  have hf : 60 + 1 ≤ C.2.2.2.2.1.frames := by rw [hR9]; exact Nat.le_of_ble_eq_true rfl
  have hlo : 50 * 60 + 50 ≤ C.2.2.2.2.1.locals := by rw [hR9]; exact Nat.le_of_ble_eq_true rfl
  have w6 : w32 (l3 + 6) = l3 + 6 := w32_id ⟨by omega, by omega⟩
  unfold m_L_c13
  refine s_aload_n (j := 1) (pc2 := 534) X dL_law_533 rfl rfl ?_
  refine s_sload_n (j := 0) (pc2 := 535) X dL_law_534 rfl rfl ?_
  refine s_iload_n (j := 3) (pc2 := 536) X dL_law_535 rfl rfl ?_
  refine s_iconst (n := 1) (pc2 := 537) X dL_law_536 rfl ?_
  refine s_iadd (pc2 := 538) X dL_law_537 rfl ?_
  refine s_sld (pc2 := 539) X hX hb hL dL_law_538 rfl (fun v1 hv1 => ?_)
  refine s_sload_n (j := 0) (pc2 := 540) X dL_law_539 rfl rfl ?_
  refine s_iload_n (j := 3) (pc2 := 541) X dL_law_540 rfl rfl ?_
  refine s_iconst (n := 2) (pc2 := 542) X dL_law_541 rfl ?_
  refine s_iadd (pc2 := 543) X dL_law_542 rfl ?_
  refine s_sld (pc2 := 544) X hX hb hL dL_law_543 rfl (fun v2 hv2 => ?_)
  refine s_callVI (d2 := 60) (As := [vI v1, vI v2]) (st := []) (pc2 := 547) X dL_law_544 rfl ml_RL_70 im_X9_run se_X9_run kX9 rfl (c_X9_run 60 (by decide) C.1 C.2.2.1 l1 v1 v2 hv1 hv2) hy_X9_run rfl rfl hf hlo (st_room (Nat.le_of_ble_eq_true rfl)) ⟨by rw [hc1]; omega, by rw [hc2]; omega⟩ (fun v3 hv3 => ?_)
  refine s_aload_n (j := 2) (pc2 := 548) X dL_law_547 rfl rfl ?_
  refine s_sload_n (j := 0) (pc2 := 549) X dL_law_548 rfl rfl ?_
  refine s_iload_n (j := 3) (pc2 := 550) X dL_law_549 rfl rfl ?_
  refine s_iconst (n := 1) (pc2 := 551) X dL_law_550 rfl ?_
  refine s_iadd (pc2 := 552) X dL_law_551 rfl ?_
  refine s_sld (pc2 := 553) X hX hb hL dL_law_552 rfl (fun v4 hv4 => ?_)
  refine s_sload_n (j := 0) (pc2 := 554) X dL_law_553 rfl rfl ?_
  refine s_iload_n (j := 3) (pc2 := 555) X dL_law_554 rfl rfl ?_
  refine s_iconst (n := 2) (pc2 := 556) X dL_law_555 rfl ?_
  refine s_iadd (pc2 := 557) X dL_law_556 rfl ?_
  refine s_sld (pc2 := 558) X hX hb hL dL_law_557 rfl (fun v5 hv5 => ?_)
  refine s_callVI (d2 := 60) (As := [vI v4, vI v5]) (st := [vI v3]) (pc2 := 561) X dL_law_558 rfl ml_RL_73 im_X10_run se_X10_run kX10 rfl (c_X10_run 60 (by decide) C.1 C.2.2.1 l2 v4 v5 hv4 hv5) hy_X10_run rfl rfl hf hlo (st_room (Nat.le_of_ble_eq_true rfl)) ⟨by rw [hc1]; omega, by rw [hc2]; omega⟩ (fun v6 hv6 => ?_)
  refine s_iceq (tgt := 1051) (pc2 := 564) X dL_law_561 (by decide) rfl hv3 hv6 ?_ ?_
  · refine s_iincK (j := 3) (y := w32 (l3 + 6)) (pc2 := 1054) X dL_law_1051 rfl (by decide) rfl rfl rfl rfl cat1_R ?_
    refine s_goto (pc2 := 18) X dL_law_1054 (by decide) ?_
    refine s_sub (lv2 := [(0, .ref b), (1, vR C.1.1 l1), (2, vR C.1.1 l2), (3, vI (w32 (l3 + 6)))]) [1, 2, 3, 0] rfl ?_
    exact hk18 l1 l2 _ (w32_in _) _ _ (by omega) (by omega)
  · refine s_iconst (n := 0) (pc2 := 565) X dL_law_564 rfl ?_
    refine s_widen 600000 7302250 (by omega) (by omega) ?_
    exact s_zret X dL_law_565
set_option maxRecDepth 4000 in
def m_L_c14 (L : Nat) (xs : Nat → Int32) (k18 : Nat → Nat → Int → hM) (l1 l2 : Nat) (l3 : Int) : hM :=
  hscr L xs (w32 (l3 + 1)) fun v1 =>
  hscr L xs (w32 (l3 + 2)) fun v2 =>
  hscr L xs (w32 (l3 + 3)) fun v3 =>
  hcallV 9 l1 (m_X9_way l1 v1 v2 v3) fun v4 =>
  hscr L xs (w32 (l3 + 1)) fun v5 =>
  hscr L xs (w32 (l3 + 2)) fun v6 =>
  hscr L xs (w32 (l3 + 3)) fun v7 =>
  hcallV 10 l2 (m_X10_way l2 v5 v6 v7) fun v8 =>
  hif (v4 = v8) (k18 l1 l2 (w32 (l3 + 6))) (hretZ 0)
theorem z_L_c14 {C : hCx} (hR9 : C.2.2.2.2.1 = room_1) (X : hOK C cL_law RL 4 (some .boolean)) {b L : Nat} {xs : Nat → Int32} (hX : va_X b L xs C.2.2.2.2.2.1 C.1.2.1) (hb : b ≤ C.1.1) (hL : L ≤ 3072) (k18 : Nat → Nat → Int → hM) (hk18 : ∀ (l1 l2 : Nat) (l3 : Int), inI l3 → ∀ (cells slots : Nat), (cells : Int) ≤ 300 + 3 * l3 → (slots : Int) ≤ 17000 + 35 * l3 → hSim C (some .boolean) 600000 7302250 4 18 [(0, .ref b), (1, vR C.1.1 l1), (2, vR C.1.1 l2), (3, vI l3)] [] cells slots (k18 l1 l2 l3)) (l1 l2 : Nat) (l3 : Int) (h3 : inI l3) (p3 : 0 ≤ l3 ∧ l3 ≤ 4000) (cells slots : Nat) (e1 : (cells : Int) ≤ 300 + 3 * l3) (e2 : (slots : Int) ≤ 17000 + 35 * l3) : hSim C (some .boolean) 600000 7302250 4 566 [(0, .ref b), (1, vR C.1.1 l1), (2, vR C.1.1 l2), (3, vI l3)] [] cells slots (m_L_c14 L xs k18 l1 l2 l3) := by
  have hc1 : C.2.2.2.2.1.cells = 600000 := by rw [hR9]; rfl
  have hc2 : C.2.2.2.2.1.slots = 7302250 := by rw [hR9]; rfl
  have hf : 60 + 1 ≤ C.2.2.2.2.1.frames := by rw [hR9]; exact Nat.le_of_ble_eq_true rfl
  have hlo : 50 * 60 + 50 ≤ C.2.2.2.2.1.locals := by rw [hR9]; exact Nat.le_of_ble_eq_true rfl
  have w6 : w32 (l3 + 6) = l3 + 6 := w32_id ⟨by omega, by omega⟩
  unfold m_L_c14
  refine s_aload_n (j := 1) (pc2 := 567) X dL_law_566 rfl rfl ?_
  refine s_sload_n (j := 0) (pc2 := 568) X dL_law_567 rfl rfl ?_
  refine s_iload_n (j := 3) (pc2 := 569) X dL_law_568 rfl rfl ?_
  refine s_iconst (n := 1) (pc2 := 570) X dL_law_569 rfl ?_
  refine s_iadd (pc2 := 571) X dL_law_570 rfl ?_
  refine s_sld (pc2 := 572) X hX hb hL dL_law_571 rfl (fun v1 hv1 => ?_)
  refine s_sload_n (j := 0) (pc2 := 573) X dL_law_572 rfl rfl ?_
  refine s_iload_n (j := 3) (pc2 := 574) X dL_law_573 rfl rfl ?_
  refine s_iconst (n := 2) (pc2 := 575) X dL_law_574 rfl ?_
  refine s_iadd (pc2 := 576) X dL_law_575 rfl ?_
  refine s_sld (pc2 := 577) X hX hb hL dL_law_576 rfl (fun v2 hv2 => ?_)
  refine s_sload_n (j := 0) (pc2 := 578) X dL_law_577 rfl rfl ?_
  refine s_iload_n (j := 3) (pc2 := 579) X dL_law_578 rfl rfl ?_
  refine s_iconst (n := 3) (pc2 := 580) X dL_law_579 rfl ?_
  refine s_iadd (pc2 := 581) X dL_law_580 rfl ?_
  refine s_sld (pc2 := 582) X hX hb hL dL_law_581 rfl (fun v3 hv3 => ?_)
  refine s_callVI (d2 := 60) (As := [vI v1, vI v2, vI v3]) (st := []) (pc2 := 585) X dL_law_582 rfl ml_RL_74 im_X9_way se_X9_way kX9 rfl (c_X9_way 60 (by decide) C.1 C.2.2.1 l1 v1 v2 v3 hv1 hv2 hv3) hy_X9_way rfl rfl hf hlo (st_room (Nat.le_of_ble_eq_true rfl)) ⟨by rw [hc1]; omega, by rw [hc2]; omega⟩ (fun v4 hv4 => ?_)
  refine s_aload_n (j := 2) (pc2 := 586) X dL_law_585 rfl rfl ?_
  refine s_sload_n (j := 0) (pc2 := 587) X dL_law_586 rfl rfl ?_
  refine s_iload_n (j := 3) (pc2 := 588) X dL_law_587 rfl rfl ?_
  refine s_iconst (n := 1) (pc2 := 589) X dL_law_588 rfl ?_
  refine s_iadd (pc2 := 590) X dL_law_589 rfl ?_
  refine s_sld (pc2 := 591) X hX hb hL dL_law_590 rfl (fun v5 hv5 => ?_)
  refine s_sload_n (j := 0) (pc2 := 592) X dL_law_591 rfl rfl ?_
  refine s_iload_n (j := 3) (pc2 := 593) X dL_law_592 rfl rfl ?_
  refine s_iconst (n := 2) (pc2 := 594) X dL_law_593 rfl ?_
  refine s_iadd (pc2 := 595) X dL_law_594 rfl ?_
  refine s_sld (pc2 := 596) X hX hb hL dL_law_595 rfl (fun v6 hv6 => ?_)
  refine s_sload_n (j := 0) (pc2 := 597) X dL_law_596 rfl rfl ?_
  refine s_iload_n (j := 3) (pc2 := 598) X dL_law_597 rfl rfl ?_
  refine s_iconst (n := 3) (pc2 := 599) X dL_law_598 rfl ?_
  refine s_iadd (pc2 := 600) X dL_law_599 rfl ?_
  refine s_sld (pc2 := 601) X hX hb hL dL_law_600 rfl (fun v7 hv7 => ?_)
  refine s_callVI (d2 := 60) (As := [vI v5, vI v6, vI v7]) (st := [vI v4]) (pc2 := 604) X dL_law_601 rfl ml_RL_77 im_X10_way se_X10_way kX10 rfl (c_X10_way 60 (by decide) C.1 C.2.2.1 l2 v5 v6 v7 hv5 hv6 hv7) hy_X10_way rfl rfl hf hlo (st_room (Nat.le_of_ble_eq_true rfl)) ⟨by rw [hc1]; omega, by rw [hc2]; omega⟩ (fun v8 hv8 => ?_)
  refine s_iceq (tgt := 1051) (pc2 := 607) X dL_law_604 (by decide) rfl hv4 hv8 ?_ ?_
  · refine s_iincK (j := 3) (y := w32 (l3 + 6)) (pc2 := 1054) X dL_law_1051 rfl (by decide) rfl rfl rfl rfl cat1_R ?_
    refine s_goto (pc2 := 18) X dL_law_1054 (by decide) ?_
    refine s_sub (lv2 := [(0, .ref b), (1, vR C.1.1 l1), (2, vR C.1.1 l2), (3, vI (w32 (l3 + 6)))]) [1, 2, 3, 0] rfl ?_
    exact hk18 l1 l2 _ (w32_in _) _ _ (by omega) (by omega)
  · refine s_iconst (n := 0) (pc2 := 608) X dL_law_607 rfl ?_
    refine s_widen 600000 7302250 (by omega) (by omega) ?_
    exact s_zret X dL_law_608
set_option maxRecDepth 4000 in
def m_L_c15 (L : Nat) (xs : Nat → Int32) (k18 : Nat → Nat → Int → hM) (l1 l2 : Nat) (l3 : Int) : hM :=
  hscr L xs (w32 (l3 + 1)) fun v1 =>
  hscr L xs (w32 (l3 + 2)) fun v2 =>
  hscr L xs (w32 (l3 + 3)) fun v3 =>
  hcallV 9 l1 (m_X9_life l1 v1 v2 v3) fun v4 =>
  hscr L xs (w32 (l3 + 1)) fun v5 =>
  hscr L xs (w32 (l3 + 2)) fun v6 =>
  hscr L xs (w32 (l3 + 3)) fun v7 =>
  hcallV 10 l2 (m_X10_life l2 v5 v6 v7) fun v8 =>
  hif (v4 = v8) (k18 l1 l2 (w32 (l3 + 6))) (hretZ 0)
theorem z_L_c15 {C : hCx} (hR9 : C.2.2.2.2.1 = room_1) (X : hOK C cL_law RL 4 (some .boolean)) {b L : Nat} {xs : Nat → Int32} (hX : va_X b L xs C.2.2.2.2.2.1 C.1.2.1) (hb : b ≤ C.1.1) (hL : L ≤ 3072) (k18 : Nat → Nat → Int → hM) (hk18 : ∀ (l1 l2 : Nat) (l3 : Int), inI l3 → ∀ (cells slots : Nat), (cells : Int) ≤ 300 + 3 * l3 → (slots : Int) ≤ 17000 + 35 * l3 → hSim C (some .boolean) 600000 7302250 4 18 [(0, .ref b), (1, vR C.1.1 l1), (2, vR C.1.1 l2), (3, vI l3)] [] cells slots (k18 l1 l2 l3)) (l1 l2 : Nat) (l3 : Int) (h3 : inI l3) (p3 : 0 ≤ l3 ∧ l3 ≤ 4000) (cells slots : Nat) (e1 : (cells : Int) ≤ 300 + 3 * l3) (e2 : (slots : Int) ≤ 17000 + 35 * l3) : hSim C (some .boolean) 600000 7302250 4 609 [(0, .ref b), (1, vR C.1.1 l1), (2, vR C.1.1 l2), (3, vI l3)] [] cells slots (m_L_c15 L xs k18 l1 l2 l3) := by
  have hc1 : C.2.2.2.2.1.cells = 600000 := by rw [hR9]; rfl
  have hc2 : C.2.2.2.2.1.slots = 7302250 := by rw [hR9]; rfl
  have hf : 60 + 1 ≤ C.2.2.2.2.1.frames := by rw [hR9]; exact Nat.le_of_ble_eq_true rfl
  have hlo : 50 * 60 + 50 ≤ C.2.2.2.2.1.locals := by rw [hR9]; exact Nat.le_of_ble_eq_true rfl
  have w6 : w32 (l3 + 6) = l3 + 6 := w32_id ⟨by omega, by omega⟩
  unfold m_L_c15
  refine s_aload_n (j := 1) (pc2 := 610) X dL_law_609 rfl rfl ?_
  refine s_sload_n (j := 0) (pc2 := 611) X dL_law_610 rfl rfl ?_
  refine s_iload_n (j := 3) (pc2 := 612) X dL_law_611 rfl rfl ?_
  refine s_iconst (n := 1) (pc2 := 613) X dL_law_612 rfl ?_
  refine s_iadd (pc2 := 614) X dL_law_613 rfl ?_
  refine s_sld (pc2 := 615) X hX hb hL dL_law_614 rfl (fun v1 hv1 => ?_)
  refine s_sload_n (j := 0) (pc2 := 616) X dL_law_615 rfl rfl ?_
  refine s_iload_n (j := 3) (pc2 := 617) X dL_law_616 rfl rfl ?_
  refine s_iconst (n := 2) (pc2 := 618) X dL_law_617 rfl ?_
  refine s_iadd (pc2 := 619) X dL_law_618 rfl ?_
  refine s_sld (pc2 := 620) X hX hb hL dL_law_619 rfl (fun v2 hv2 => ?_)
  refine s_sload_n (j := 0) (pc2 := 621) X dL_law_620 rfl rfl ?_
  refine s_iload_n (j := 3) (pc2 := 622) X dL_law_621 rfl rfl ?_
  refine s_iconst (n := 3) (pc2 := 623) X dL_law_622 rfl ?_
  refine s_iadd (pc2 := 624) X dL_law_623 rfl ?_
  refine s_sld (pc2 := 625) X hX hb hL dL_law_624 rfl (fun v3 hv3 => ?_)
  refine s_callVI (d2 := 60) (As := [vI v1, vI v2, vI v3]) (st := []) (pc2 := 628) X dL_law_625 rfl ml_RL_78 im_X9_life se_X9_life kX9 rfl (c_X9_life 60 (by decide) C.1 C.2.2.1 l1 v1 v2 v3 hv1 hv2 hv3) hy_X9_life rfl rfl hf hlo (st_room (Nat.le_of_ble_eq_true rfl)) ⟨by rw [hc1]; omega, by rw [hc2]; omega⟩ (fun v4 hv4 => ?_)
  refine s_aload_n (j := 2) (pc2 := 629) X dL_law_628 rfl rfl ?_
  refine s_sload_n (j := 0) (pc2 := 630) X dL_law_629 rfl rfl ?_
  refine s_iload_n (j := 3) (pc2 := 631) X dL_law_630 rfl rfl ?_
  refine s_iconst (n := 1) (pc2 := 632) X dL_law_631 rfl ?_
  refine s_iadd (pc2 := 633) X dL_law_632 rfl ?_
  refine s_sld (pc2 := 634) X hX hb hL dL_law_633 rfl (fun v5 hv5 => ?_)
  refine s_sload_n (j := 0) (pc2 := 635) X dL_law_634 rfl rfl ?_
  refine s_iload_n (j := 3) (pc2 := 636) X dL_law_635 rfl rfl ?_
  refine s_iconst (n := 2) (pc2 := 637) X dL_law_636 rfl ?_
  refine s_iadd (pc2 := 638) X dL_law_637 rfl ?_
  refine s_sld (pc2 := 639) X hX hb hL dL_law_638 rfl (fun v6 hv6 => ?_)
  refine s_sload_n (j := 0) (pc2 := 640) X dL_law_639 rfl rfl ?_
  refine s_iload_n (j := 3) (pc2 := 641) X dL_law_640 rfl rfl ?_
  refine s_iconst (n := 3) (pc2 := 642) X dL_law_641 rfl ?_
  refine s_iadd (pc2 := 643) X dL_law_642 rfl ?_
  refine s_sld (pc2 := 644) X hX hb hL dL_law_643 rfl (fun v7 hv7 => ?_)
  refine s_callVI (d2 := 60) (As := [vI v5, vI v6, vI v7]) (st := [vI v4]) (pc2 := 647) X dL_law_644 rfl ml_RL_81 im_X10_life se_X10_life kX10 rfl (c_X10_life 60 (by decide) C.1 C.2.2.1 l2 v5 v6 v7 hv5 hv6 hv7) hy_X10_life rfl rfl hf hlo (st_room (Nat.le_of_ble_eq_true rfl)) ⟨by rw [hc1]; omega, by rw [hc2]; omega⟩ (fun v8 hv8 => ?_)
  refine s_iceq (tgt := 1051) (pc2 := 650) X dL_law_647 (by decide) rfl hv4 hv8 ?_ ?_
  · refine s_iincK (j := 3) (y := w32 (l3 + 6)) (pc2 := 1054) X dL_law_1051 rfl (by decide) rfl rfl rfl rfl cat1_R ?_
    refine s_goto (pc2 := 18) X dL_law_1054 (by decide) ?_
    refine s_sub (lv2 := [(0, .ref b), (1, vR C.1.1 l1), (2, vR C.1.1 l2), (3, vI (w32 (l3 + 6)))]) [1, 2, 3, 0] rfl ?_
    exact hk18 l1 l2 _ (w32_in _) _ _ (by omega) (by omega)
  · refine s_iconst (n := 0) (pc2 := 651) X dL_law_650 rfl ?_
    refine s_widen 600000 7302250 (by omega) (by omega) ?_
    exact s_zret X dL_law_651
set_option maxRecDepth 4000 in
def m_L_c16 (L : Nat) (xs : Nat → Int32) (k18 : Nat → Nat → Int → hM) (l1 l2 : Nat) (l3 : Int) : hM :=
  hscr L xs (w32 (l3 + 1)) fun v1 =>
  hscr L xs (w32 (l3 + 2)) fun v2 =>
  hscr L xs (w32 (l3 + 3)) fun v3 =>
  hcallV 9 l1 (m_X9_worth l1 v1 v2 v3) fun v4 =>
  hscr L xs (w32 (l3 + 1)) fun v5 =>
  hscr L xs (w32 (l3 + 2)) fun v6 =>
  hscr L xs (w32 (l3 + 3)) fun v7 =>
  hcallV 10 l2 (m_X10_worth l2 v5 v6 v7) fun v8 =>
  hif (v4 = v8) (k18 l1 l2 (w32 (l3 + 6))) (hretZ 0)
theorem z_L_c16 {C : hCx} (hR9 : C.2.2.2.2.1 = room_1) (X : hOK C cL_law RL 4 (some .boolean)) {b L : Nat} {xs : Nat → Int32} (hX : va_X b L xs C.2.2.2.2.2.1 C.1.2.1) (hb : b ≤ C.1.1) (hL : L ≤ 3072) (k18 : Nat → Nat → Int → hM) (hk18 : ∀ (l1 l2 : Nat) (l3 : Int), inI l3 → ∀ (cells slots : Nat), (cells : Int) ≤ 300 + 3 * l3 → (slots : Int) ≤ 17000 + 35 * l3 → hSim C (some .boolean) 600000 7302250 4 18 [(0, .ref b), (1, vR C.1.1 l1), (2, vR C.1.1 l2), (3, vI l3)] [] cells slots (k18 l1 l2 l3)) (l1 l2 : Nat) (l3 : Int) (h3 : inI l3) (p3 : 0 ≤ l3 ∧ l3 ≤ 4000) (cells slots : Nat) (e1 : (cells : Int) ≤ 300 + 3 * l3) (e2 : (slots : Int) ≤ 17000 + 35 * l3) : hSim C (some .boolean) 600000 7302250 4 652 [(0, .ref b), (1, vR C.1.1 l1), (2, vR C.1.1 l2), (3, vI l3)] [] cells slots (m_L_c16 L xs k18 l1 l2 l3) := by
  have hc1 : C.2.2.2.2.1.cells = 600000 := by rw [hR9]; rfl
  have hc2 : C.2.2.2.2.1.slots = 7302250 := by rw [hR9]; rfl
  have hf : 60 + 1 ≤ C.2.2.2.2.1.frames := by rw [hR9]; exact Nat.le_of_ble_eq_true rfl
  have hlo : 50 * 60 + 50 ≤ C.2.2.2.2.1.locals := by rw [hR9]; exact Nat.le_of_ble_eq_true rfl
  have w6 : w32 (l3 + 6) = l3 + 6 := w32_id ⟨by omega, by omega⟩
  unfold m_L_c16
  refine s_aload_n (j := 1) (pc2 := 653) X dL_law_652 rfl rfl ?_
  refine s_sload_n (j := 0) (pc2 := 654) X dL_law_653 rfl rfl ?_
  refine s_iload_n (j := 3) (pc2 := 655) X dL_law_654 rfl rfl ?_
  refine s_iconst (n := 1) (pc2 := 656) X dL_law_655 rfl ?_
  refine s_iadd (pc2 := 657) X dL_law_656 rfl ?_
  refine s_sld (pc2 := 658) X hX hb hL dL_law_657 rfl (fun v1 hv1 => ?_)
  refine s_sload_n (j := 0) (pc2 := 659) X dL_law_658 rfl rfl ?_
  refine s_iload_n (j := 3) (pc2 := 660) X dL_law_659 rfl rfl ?_
  refine s_iconst (n := 2) (pc2 := 661) X dL_law_660 rfl ?_
  refine s_iadd (pc2 := 662) X dL_law_661 rfl ?_
  refine s_sld (pc2 := 663) X hX hb hL dL_law_662 rfl (fun v2 hv2 => ?_)
  refine s_sload_n (j := 0) (pc2 := 664) X dL_law_663 rfl rfl ?_
  refine s_iload_n (j := 3) (pc2 := 665) X dL_law_664 rfl rfl ?_
  refine s_iconst (n := 3) (pc2 := 666) X dL_law_665 rfl ?_
  refine s_iadd (pc2 := 667) X dL_law_666 rfl ?_
  refine s_sld (pc2 := 668) X hX hb hL dL_law_667 rfl (fun v3 hv3 => ?_)
  refine s_callVI (d2 := 60) (As := [vI v1, vI v2, vI v3]) (st := []) (pc2 := 671) X dL_law_668 rfl ml_RL_82 im_X9_worth se_X9_worth kX9 rfl (c_X9_worth 60 (by decide) C.1 C.2.2.1 l1 v1 v2 v3 hv1 hv2 hv3) hy_X9_worth rfl rfl hf hlo (st_room (Nat.le_of_ble_eq_true rfl)) ⟨by rw [hc1]; omega, by rw [hc2]; omega⟩ (fun v4 hv4 => ?_)
  refine s_aload_n (j := 2) (pc2 := 672) X dL_law_671 rfl rfl ?_
  refine s_sload_n (j := 0) (pc2 := 673) X dL_law_672 rfl rfl ?_
  refine s_iload_n (j := 3) (pc2 := 674) X dL_law_673 rfl rfl ?_
  refine s_iconst (n := 1) (pc2 := 675) X dL_law_674 rfl ?_
  refine s_iadd (pc2 := 676) X dL_law_675 rfl ?_
  refine s_sld (pc2 := 677) X hX hb hL dL_law_676 rfl (fun v5 hv5 => ?_)
  refine s_sload_n (j := 0) (pc2 := 678) X dL_law_677 rfl rfl ?_
  refine s_iload_n (j := 3) (pc2 := 679) X dL_law_678 rfl rfl ?_
  refine s_iconst (n := 2) (pc2 := 680) X dL_law_679 rfl ?_
  refine s_iadd (pc2 := 681) X dL_law_680 rfl ?_
  refine s_sld (pc2 := 682) X hX hb hL dL_law_681 rfl (fun v6 hv6 => ?_)
  refine s_sload_n (j := 0) (pc2 := 683) X dL_law_682 rfl rfl ?_
  refine s_iload_n (j := 3) (pc2 := 684) X dL_law_683 rfl rfl ?_
  refine s_iconst (n := 3) (pc2 := 685) X dL_law_684 rfl ?_
  refine s_iadd (pc2 := 686) X dL_law_685 rfl ?_
  refine s_sld (pc2 := 687) X hX hb hL dL_law_686 rfl (fun v7 hv7 => ?_)
  refine s_callVI (d2 := 60) (As := [vI v5, vI v6, vI v7]) (st := [vI v4]) (pc2 := 690) X dL_law_687 rfl ml_RL_85 im_X10_worth se_X10_worth kX10 rfl (c_X10_worth 60 (by decide) C.1 C.2.2.1 l2 v5 v6 v7 hv5 hv6 hv7) hy_X10_worth rfl rfl hf hlo (st_room (Nat.le_of_ble_eq_true rfl)) ⟨by rw [hc1]; omega, by rw [hc2]; omega⟩ (fun v8 hv8 => ?_)
  refine s_iceq (tgt := 1051) (pc2 := 693) X dL_law_690 (by decide) rfl hv4 hv8 ?_ ?_
  · refine s_iincK (j := 3) (y := w32 (l3 + 6)) (pc2 := 1054) X dL_law_1051 rfl (by decide) rfl rfl rfl rfl cat1_R ?_
    refine s_goto (pc2 := 18) X dL_law_1054 (by decide) ?_
    refine s_sub (lv2 := [(0, .ref b), (1, vR C.1.1 l1), (2, vR C.1.1 l2), (3, vI (w32 (l3 + 6)))]) [1, 2, 3, 0] rfl ?_
    exact hk18 l1 l2 _ (w32_in _) _ _ (by omega) (by omega)
  · refine s_iconst (n := 0) (pc2 := 694) X dL_law_693 rfl ?_
    refine s_widen 600000 7302250 (by omega) (by omega) ?_
    exact s_zret X dL_law_694
set_option maxRecDepth 4000 in
def m_L_c17 (L : Nat) (xs : Nat → Int32) (k18 : Nat → Nat → Int → hM) (l1 l2 : Nat) (l3 : Int) : hM :=
  hscr L xs (w32 (l3 + 1)) fun v1 =>
  hscr L xs (w32 (l3 + 2)) fun v2 =>
  hcallV 9 l1 (m_X9_more l1 v1 v2) fun v3 =>
  hscr L xs (w32 (l3 + 1)) fun v4 =>
  hscr L xs (w32 (l3 + 2)) fun v5 =>
  hcallV 10 l2 (m_X10_more l2 v4 v5) fun v6 =>
  hif (v3 = v6) (k18 l1 l2 (w32 (l3 + 6))) (hretZ 0)
theorem z_L_c17 {C : hCx} (hR9 : C.2.2.2.2.1 = room_1) (X : hOK C cL_law RL 4 (some .boolean)) {b L : Nat} {xs : Nat → Int32} (hX : va_X b L xs C.2.2.2.2.2.1 C.1.2.1) (hb : b ≤ C.1.1) (hL : L ≤ 3072) (k18 : Nat → Nat → Int → hM) (hk18 : ∀ (l1 l2 : Nat) (l3 : Int), inI l3 → ∀ (cells slots : Nat), (cells : Int) ≤ 300 + 3 * l3 → (slots : Int) ≤ 17000 + 35 * l3 → hSim C (some .boolean) 600000 7302250 4 18 [(0, .ref b), (1, vR C.1.1 l1), (2, vR C.1.1 l2), (3, vI l3)] [] cells slots (k18 l1 l2 l3)) (l1 l2 : Nat) (l3 : Int) (h3 : inI l3) (p3 : 0 ≤ l3 ∧ l3 ≤ 4000) (cells slots : Nat) (e1 : (cells : Int) ≤ 300 + 3 * l3) (e2 : (slots : Int) ≤ 17000 + 35 * l3) : hSim C (some .boolean) 600000 7302250 4 695 [(0, .ref b), (1, vR C.1.1 l1), (2, vR C.1.1 l2), (3, vI l3)] [] cells slots (m_L_c17 L xs k18 l1 l2 l3) := by
  have hc1 : C.2.2.2.2.1.cells = 600000 := by rw [hR9]; rfl
  have hc2 : C.2.2.2.2.1.slots = 7302250 := by rw [hR9]; rfl
  have hf : 60 + 1 ≤ C.2.2.2.2.1.frames := by rw [hR9]; exact Nat.le_of_ble_eq_true rfl
  have hlo : 50 * 60 + 50 ≤ C.2.2.2.2.1.locals := by rw [hR9]; exact Nat.le_of_ble_eq_true rfl
  have w6 : w32 (l3 + 6) = l3 + 6 := w32_id ⟨by omega, by omega⟩
  unfold m_L_c17
  refine s_aload_n (j := 1) (pc2 := 696) X dL_law_695 rfl rfl ?_
  refine s_sload_n (j := 0) (pc2 := 697) X dL_law_696 rfl rfl ?_
  refine s_iload_n (j := 3) (pc2 := 698) X dL_law_697 rfl rfl ?_
  refine s_iconst (n := 1) (pc2 := 699) X dL_law_698 rfl ?_
  refine s_iadd (pc2 := 700) X dL_law_699 rfl ?_
  refine s_sld (pc2 := 701) X hX hb hL dL_law_700 rfl (fun v1 hv1 => ?_)
  refine s_sload_n (j := 0) (pc2 := 702) X dL_law_701 rfl rfl ?_
  refine s_iload_n (j := 3) (pc2 := 703) X dL_law_702 rfl rfl ?_
  refine s_iconst (n := 2) (pc2 := 704) X dL_law_703 rfl ?_
  refine s_iadd (pc2 := 705) X dL_law_704 rfl ?_
  refine s_sld (pc2 := 706) X hX hb hL dL_law_705 rfl (fun v2 hv2 => ?_)
  refine s_callVI (d2 := 60) (As := [vI v1, vI v2]) (st := []) (pc2 := 709) X dL_law_706 rfl ml_RL_86 im_X9_more se_X9_more kX9 rfl (c_X9_more 60 (by decide) C.1 C.2.2.1 l1 v1 v2 hv1 hv2) hy_X9_more rfl rfl hf hlo (st_room (Nat.le_of_ble_eq_true rfl)) ⟨by rw [hc1]; omega, by rw [hc2]; omega⟩ (fun v3 hv3 => ?_)
  refine s_aload_n (j := 2) (pc2 := 710) X dL_law_709 rfl rfl ?_
  refine s_sload_n (j := 0) (pc2 := 711) X dL_law_710 rfl rfl ?_
  refine s_iload_n (j := 3) (pc2 := 712) X dL_law_711 rfl rfl ?_
  refine s_iconst (n := 1) (pc2 := 713) X dL_law_712 rfl ?_
  refine s_iadd (pc2 := 714) X dL_law_713 rfl ?_
  refine s_sld (pc2 := 715) X hX hb hL dL_law_714 rfl (fun v4 hv4 => ?_)
  refine s_sload_n (j := 0) (pc2 := 716) X dL_law_715 rfl rfl ?_
  refine s_iload_n (j := 3) (pc2 := 717) X dL_law_716 rfl rfl ?_
  refine s_iconst (n := 2) (pc2 := 718) X dL_law_717 rfl ?_
  refine s_iadd (pc2 := 719) X dL_law_718 rfl ?_
  refine s_sld (pc2 := 720) X hX hb hL dL_law_719 rfl (fun v5 hv5 => ?_)
  refine s_callVI (d2 := 60) (As := [vI v4, vI v5]) (st := [vI v3]) (pc2 := 723) X dL_law_720 rfl ml_RL_89 im_X10_more se_X10_more kX10 rfl (c_X10_more 60 (by decide) C.1 C.2.2.1 l2 v4 v5 hv4 hv5) hy_X10_more rfl rfl hf hlo (st_room (Nat.le_of_ble_eq_true rfl)) ⟨by rw [hc1]; omega, by rw [hc2]; omega⟩ (fun v6 hv6 => ?_)
  refine s_iceq (tgt := 1051) (pc2 := 726) X dL_law_723 (by decide) rfl hv3 hv6 ?_ ?_
  · refine s_iincK (j := 3) (y := w32 (l3 + 6)) (pc2 := 1054) X dL_law_1051 rfl (by decide) rfl rfl rfl rfl cat1_R ?_
    refine s_goto (pc2 := 18) X dL_law_1054 (by decide) ?_
    refine s_sub (lv2 := [(0, .ref b), (1, vR C.1.1 l1), (2, vR C.1.1 l2), (3, vI (w32 (l3 + 6)))]) [1, 2, 3, 0] rfl ?_
    exact hk18 l1 l2 _ (w32_in _) _ _ (by omega) (by omega)
  · refine s_iconst (n := 0) (pc2 := 727) X dL_law_726 rfl ?_
    refine s_widen 600000 7302250 (by omega) (by omega) ?_
    exact s_zret X dL_law_727
set_option maxRecDepth 4000 in
def m_L_c18 (L : Nat) (xs : Nat → Int32) (k18 : Nat → Nat → Int → hM) (l1 l2 : Nat) (l3 : Int) : hM :=
  hscr L xs (w32 (l3 + 1)) fun v1 =>
  hscr L xs (w32 (l3 + 2)) fun v2 =>
  hscr L xs (w32 (l3 + 3)) fun v3 =>
  hcallV 9 l1 (m_X9_meet l1 v1 v2 v3) fun v4 =>
  hscr L xs (w32 (l3 + 1)) fun v5 =>
  hscr L xs (w32 (l3 + 2)) fun v6 =>
  hscr L xs (w32 (l3 + 3)) fun v7 =>
  hcallV 10 l2 (m_X10_meet l2 v5 v6 v7) fun v8 =>
  hif (v4 = v8) (k18 l1 l2 (w32 (l3 + 6))) (hretZ 0)
theorem z_L_c18 {C : hCx} (hR9 : C.2.2.2.2.1 = room_1) (X : hOK C cL_law RL 4 (some .boolean)) {b L : Nat} {xs : Nat → Int32} (hX : va_X b L xs C.2.2.2.2.2.1 C.1.2.1) (hb : b ≤ C.1.1) (hL : L ≤ 3072) (k18 : Nat → Nat → Int → hM) (hk18 : ∀ (l1 l2 : Nat) (l3 : Int), inI l3 → ∀ (cells slots : Nat), (cells : Int) ≤ 300 + 3 * l3 → (slots : Int) ≤ 17000 + 35 * l3 → hSim C (some .boolean) 600000 7302250 4 18 [(0, .ref b), (1, vR C.1.1 l1), (2, vR C.1.1 l2), (3, vI l3)] [] cells slots (k18 l1 l2 l3)) (l1 l2 : Nat) (l3 : Int) (h3 : inI l3) (p3 : 0 ≤ l3 ∧ l3 ≤ 4000) (cells slots : Nat) (e1 : (cells : Int) ≤ 300 + 3 * l3) (e2 : (slots : Int) ≤ 17000 + 35 * l3) : hSim C (some .boolean) 600000 7302250 4 728 [(0, .ref b), (1, vR C.1.1 l1), (2, vR C.1.1 l2), (3, vI l3)] [] cells slots (m_L_c18 L xs k18 l1 l2 l3) := by
  have hc1 : C.2.2.2.2.1.cells = 600000 := by rw [hR9]; rfl
  have hc2 : C.2.2.2.2.1.slots = 7302250 := by rw [hR9]; rfl
  have hf : 60 + 1 ≤ C.2.2.2.2.1.frames := by rw [hR9]; exact Nat.le_of_ble_eq_true rfl
  have hlo : 50 * 60 + 50 ≤ C.2.2.2.2.1.locals := by rw [hR9]; exact Nat.le_of_ble_eq_true rfl
  have w6 : w32 (l3 + 6) = l3 + 6 := w32_id ⟨by omega, by omega⟩
  unfold m_L_c18
  refine s_aload_n (j := 1) (pc2 := 729) X dL_law_728 rfl rfl ?_
  refine s_sload_n (j := 0) (pc2 := 730) X dL_law_729 rfl rfl ?_
  refine s_iload_n (j := 3) (pc2 := 731) X dL_law_730 rfl rfl ?_
  refine s_iconst (n := 1) (pc2 := 732) X dL_law_731 rfl ?_
  refine s_iadd (pc2 := 733) X dL_law_732 rfl ?_
  refine s_sld (pc2 := 734) X hX hb hL dL_law_733 rfl (fun v1 hv1 => ?_)
  refine s_sload_n (j := 0) (pc2 := 735) X dL_law_734 rfl rfl ?_
  refine s_iload_n (j := 3) (pc2 := 736) X dL_law_735 rfl rfl ?_
  refine s_iconst (n := 2) (pc2 := 737) X dL_law_736 rfl ?_
  refine s_iadd (pc2 := 738) X dL_law_737 rfl ?_
  refine s_sld (pc2 := 739) X hX hb hL dL_law_738 rfl (fun v2 hv2 => ?_)
  refine s_sload_n (j := 0) (pc2 := 740) X dL_law_739 rfl rfl ?_
  refine s_iload_n (j := 3) (pc2 := 741) X dL_law_740 rfl rfl ?_
  refine s_iconst (n := 3) (pc2 := 742) X dL_law_741 rfl ?_
  refine s_iadd (pc2 := 743) X dL_law_742 rfl ?_
  refine s_sld (pc2 := 744) X hX hb hL dL_law_743 rfl (fun v3 hv3 => ?_)
  refine s_callVI (d2 := 60) (As := [vI v1, vI v2, vI v3]) (st := []) (pc2 := 747) X dL_law_744 rfl ml_RL_90 im_X9_meet se_X9_meet kX9 rfl (c_X9_meet 60 (by decide) C.1 C.2.2.1 l1 v1 v2 v3 hv1 hv2 hv3) hy_X9_meet rfl rfl hf hlo (st_room (Nat.le_of_ble_eq_true rfl)) ⟨by rw [hc1]; omega, by rw [hc2]; omega⟩ (fun v4 hv4 => ?_)
  refine s_aload_n (j := 2) (pc2 := 748) X dL_law_747 rfl rfl ?_
  refine s_sload_n (j := 0) (pc2 := 749) X dL_law_748 rfl rfl ?_
  refine s_iload_n (j := 3) (pc2 := 750) X dL_law_749 rfl rfl ?_
  refine s_iconst (n := 1) (pc2 := 751) X dL_law_750 rfl ?_
  refine s_iadd (pc2 := 752) X dL_law_751 rfl ?_
  refine s_sld (pc2 := 753) X hX hb hL dL_law_752 rfl (fun v5 hv5 => ?_)
  refine s_sload_n (j := 0) (pc2 := 754) X dL_law_753 rfl rfl ?_
  refine s_iload_n (j := 3) (pc2 := 755) X dL_law_754 rfl rfl ?_
  refine s_iconst (n := 2) (pc2 := 756) X dL_law_755 rfl ?_
  refine s_iadd (pc2 := 757) X dL_law_756 rfl ?_
  refine s_sld (pc2 := 758) X hX hb hL dL_law_757 rfl (fun v6 hv6 => ?_)
  refine s_sload_n (j := 0) (pc2 := 759) X dL_law_758 rfl rfl ?_
  refine s_iload_n (j := 3) (pc2 := 760) X dL_law_759 rfl rfl ?_
  refine s_iconst (n := 3) (pc2 := 761) X dL_law_760 rfl ?_
  refine s_iadd (pc2 := 762) X dL_law_761 rfl ?_
  refine s_sld (pc2 := 763) X hX hb hL dL_law_762 rfl (fun v7 hv7 => ?_)
  refine s_callVI (d2 := 60) (As := [vI v5, vI v6, vI v7]) (st := [vI v4]) (pc2 := 766) X dL_law_763 rfl ml_RL_93 im_X10_meet se_X10_meet kX10 rfl (c_X10_meet 60 (by decide) C.1 C.2.2.1 l2 v5 v6 v7 hv5 hv6 hv7) hy_X10_meet rfl rfl hf hlo (st_room (Nat.le_of_ble_eq_true rfl)) ⟨by rw [hc1]; omega, by rw [hc2]; omega⟩ (fun v8 hv8 => ?_)
  refine s_iceq (tgt := 1051) (pc2 := 769) X dL_law_766 (by decide) rfl hv4 hv8 ?_ ?_
  · refine s_iincK (j := 3) (y := w32 (l3 + 6)) (pc2 := 1054) X dL_law_1051 rfl (by decide) rfl rfl rfl rfl cat1_R ?_
    refine s_goto (pc2 := 18) X dL_law_1054 (by decide) ?_
    refine s_sub (lv2 := [(0, .ref b), (1, vR C.1.1 l1), (2, vR C.1.1 l2), (3, vI (w32 (l3 + 6)))]) [1, 2, 3, 0] rfl ?_
    exact hk18 l1 l2 _ (w32_in _) _ _ (by omega) (by omega)
  · refine s_iconst (n := 0) (pc2 := 770) X dL_law_769 rfl ?_
    refine s_widen 600000 7302250 (by omega) (by omega) ?_
    exact s_zret X dL_law_770
set_option maxRecDepth 4000 in
def m_L_c19 (L : Nat) (xs : Nat → Int32) (k18 : Nat → Nat → Int → hM) (l1 l2 : Nat) (l3 : Int) : hM :=
  hscr L xs (w32 (l3 + 1)) fun v1 =>
  hcallV 9 l1 (m_X9_best l1 v1) fun v2 =>
  hscr L xs (w32 (l3 + 1)) fun v3 =>
  hcallV 10 l2 (m_X10_best l2 v3) fun v4 =>
  hif (v2 = v4) (k18 l1 l2 (w32 (l3 + 6))) (hretZ 0)
theorem z_L_c19 {C : hCx} (hR9 : C.2.2.2.2.1 = room_1) (X : hOK C cL_law RL 4 (some .boolean)) {b L : Nat} {xs : Nat → Int32} (hX : va_X b L xs C.2.2.2.2.2.1 C.1.2.1) (hb : b ≤ C.1.1) (hL : L ≤ 3072) (k18 : Nat → Nat → Int → hM) (hk18 : ∀ (l1 l2 : Nat) (l3 : Int), inI l3 → ∀ (cells slots : Nat), (cells : Int) ≤ 300 + 3 * l3 → (slots : Int) ≤ 17000 + 35 * l3 → hSim C (some .boolean) 600000 7302250 4 18 [(0, .ref b), (1, vR C.1.1 l1), (2, vR C.1.1 l2), (3, vI l3)] [] cells slots (k18 l1 l2 l3)) (l1 l2 : Nat) (l3 : Int) (h3 : inI l3) (p3 : 0 ≤ l3 ∧ l3 ≤ 4000) (cells slots : Nat) (e1 : (cells : Int) ≤ 300 + 3 * l3) (e2 : (slots : Int) ≤ 17000 + 35 * l3) : hSim C (some .boolean) 600000 7302250 4 771 [(0, .ref b), (1, vR C.1.1 l1), (2, vR C.1.1 l2), (3, vI l3)] [] cells slots (m_L_c19 L xs k18 l1 l2 l3) := by
  have hc1 : C.2.2.2.2.1.cells = 600000 := by rw [hR9]; rfl
  have hc2 : C.2.2.2.2.1.slots = 7302250 := by rw [hR9]; rfl
  have hf : 60 + 1 ≤ C.2.2.2.2.1.frames := by rw [hR9]; exact Nat.le_of_ble_eq_true rfl
  have hlo : 50 * 60 + 50 ≤ C.2.2.2.2.1.locals := by rw [hR9]; exact Nat.le_of_ble_eq_true rfl
  have w6 : w32 (l3 + 6) = l3 + 6 := w32_id ⟨by omega, by omega⟩
  unfold m_L_c19
  refine s_aload_n (j := 1) (pc2 := 772) X dL_law_771 rfl rfl ?_
  refine s_sload_n (j := 0) (pc2 := 773) X dL_law_772 rfl rfl ?_
  refine s_iload_n (j := 3) (pc2 := 774) X dL_law_773 rfl rfl ?_
  refine s_iconst (n := 1) (pc2 := 775) X dL_law_774 rfl ?_
  refine s_iadd (pc2 := 776) X dL_law_775 rfl ?_
  refine s_sld (pc2 := 777) X hX hb hL dL_law_776 rfl (fun v1 hv1 => ?_)
  refine s_callVI (d2 := 60) (As := [vI v1]) (st := []) (pc2 := 780) X dL_law_777 rfl ml_RL_94 im_X9_best se_X9_best kX9 rfl (c_X9_best 60 (by decide) C.1 C.2.2.1 l1 v1 hv1) hy_X9_best rfl rfl hf hlo (st_room (Nat.le_of_ble_eq_true rfl)) ⟨by rw [hc1]; omega, by rw [hc2]; omega⟩ (fun v2 hv2 => ?_)
  refine s_aload_n (j := 2) (pc2 := 781) X dL_law_780 rfl rfl ?_
  refine s_sload_n (j := 0) (pc2 := 782) X dL_law_781 rfl rfl ?_
  refine s_iload_n (j := 3) (pc2 := 783) X dL_law_782 rfl rfl ?_
  refine s_iconst (n := 1) (pc2 := 784) X dL_law_783 rfl ?_
  refine s_iadd (pc2 := 785) X dL_law_784 rfl ?_
  refine s_sld (pc2 := 786) X hX hb hL dL_law_785 rfl (fun v3 hv3 => ?_)
  refine s_callVI (d2 := 60) (As := [vI v3]) (st := [vI v2]) (pc2 := 789) X dL_law_786 rfl ml_RL_97 im_X10_best se_X10_best kX10 rfl (c_X10_best 60 (by decide) C.1 C.2.2.1 l2 v3 hv3) hy_X10_best rfl rfl hf hlo (st_room (Nat.le_of_ble_eq_true rfl)) ⟨by rw [hc1]; omega, by rw [hc2]; omega⟩ (fun v4 hv4 => ?_)
  refine s_iceq (tgt := 1051) (pc2 := 792) X dL_law_789 (by decide) rfl hv2 hv4 ?_ ?_
  · refine s_iincK (j := 3) (y := w32 (l3 + 6)) (pc2 := 1054) X dL_law_1051 rfl (by decide) rfl rfl rfl rfl cat1_R ?_
    refine s_goto (pc2 := 18) X dL_law_1054 (by decide) ?_
    refine s_sub (lv2 := [(0, .ref b), (1, vR C.1.1 l1), (2, vR C.1.1 l2), (3, vI (w32 (l3 + 6)))]) [1, 2, 3, 0] rfl ?_
    exact hk18 l1 l2 _ (w32_in _) _ _ (by omega) (by omega)
  · refine s_iconst (n := 0) (pc2 := 793) X dL_law_792 rfl ?_
    refine s_widen 600000 7302250 (by omega) (by omega) ?_
    exact s_zret X dL_law_793
set_option maxRecDepth 4000 in
def m_L_c20 (L : Nat) (xs : Nat → Int32) (k18 : Nat → Nat → Int → hM) (l1 l2 : Nat) (l3 : Int) : hM :=
  hcallV 9 l1 (m_X9_alone l1) fun v1 =>
  hcallV 10 l2 (m_X10_alone l2) fun v2 =>
  hif (v1 = v2) (k18 l1 l2 (w32 (l3 + 6))) (hretZ 0)
theorem z_L_c20 {C : hCx} (hR9 : C.2.2.2.2.1 = room_1) (X : hOK C cL_law RL 4 (some .boolean)) {b L : Nat} {xs : Nat → Int32} (hX : va_X b L xs C.2.2.2.2.2.1 C.1.2.1) (hb : b ≤ C.1.1) (hL : L ≤ 3072) (k18 : Nat → Nat → Int → hM) (hk18 : ∀ (l1 l2 : Nat) (l3 : Int), inI l3 → ∀ (cells slots : Nat), (cells : Int) ≤ 300 + 3 * l3 → (slots : Int) ≤ 17000 + 35 * l3 → hSim C (some .boolean) 600000 7302250 4 18 [(0, .ref b), (1, vR C.1.1 l1), (2, vR C.1.1 l2), (3, vI l3)] [] cells slots (k18 l1 l2 l3)) (l1 l2 : Nat) (l3 : Int) (h3 : inI l3) (p3 : 0 ≤ l3 ∧ l3 ≤ 4000) (cells slots : Nat) (e1 : (cells : Int) ≤ 300 + 3 * l3) (e2 : (slots : Int) ≤ 17000 + 35 * l3) : hSim C (some .boolean) 600000 7302250 4 794 [(0, .ref b), (1, vR C.1.1 l1), (2, vR C.1.1 l2), (3, vI l3)] [] cells slots (m_L_c20 L xs k18 l1 l2 l3) := by
  have hc1 : C.2.2.2.2.1.cells = 600000 := by rw [hR9]; rfl
  have hc2 : C.2.2.2.2.1.slots = 7302250 := by rw [hR9]; rfl
  have hf : 60 + 1 ≤ C.2.2.2.2.1.frames := by rw [hR9]; exact Nat.le_of_ble_eq_true rfl
  have hlo : 50 * 60 + 50 ≤ C.2.2.2.2.1.locals := by rw [hR9]; exact Nat.le_of_ble_eq_true rfl
  have w6 : w32 (l3 + 6) = l3 + 6 := w32_id ⟨by omega, by omega⟩
  unfold m_L_c20
  refine s_aload_n (j := 1) (pc2 := 795) X dL_law_794 rfl rfl ?_
  refine s_callVI (d2 := 60) (As := []) (st := []) (pc2 := 798) X dL_law_795 rfl ml_RL_98 im_X9_alone se_X9_alone kX9 rfl (c_X9_alone 60 (by decide) C.1 C.2.2.1 l1) hy_X9_alone rfl rfl hf hlo (st_room (Nat.le_of_ble_eq_true rfl)) ⟨by rw [hc1]; omega, by rw [hc2]; omega⟩ (fun v1 hv1 => ?_)
  refine s_aload_n (j := 2) (pc2 := 799) X dL_law_798 rfl rfl ?_
  refine s_callVI (d2 := 60) (As := []) (st := [vI v1]) (pc2 := 802) X dL_law_799 rfl ml_RL_101 im_X10_alone se_X10_alone kX10 rfl (c_X10_alone 60 (by decide) C.1 C.2.2.1 l2) hy_X10_alone rfl rfl hf hlo (st_room (Nat.le_of_ble_eq_true rfl)) ⟨by rw [hc1]; omega, by rw [hc2]; omega⟩ (fun v2 hv2 => ?_)
  refine s_iceq (tgt := 1051) (pc2 := 805) X dL_law_802 (by decide) rfl hv1 hv2 ?_ ?_
  · refine s_iincK (j := 3) (y := w32 (l3 + 6)) (pc2 := 1054) X dL_law_1051 rfl (by decide) rfl rfl rfl rfl cat1_R ?_
    refine s_goto (pc2 := 18) X dL_law_1054 (by decide) ?_
    refine s_sub (lv2 := [(0, .ref b), (1, vR C.1.1 l1), (2, vR C.1.1 l2), (3, vI (w32 (l3 + 6)))]) [1, 2, 3, 0] rfl ?_
    exact hk18 l1 l2 _ (w32_in _) _ _ (by omega) (by omega)
  · refine s_iconst (n := 0) (pc2 := 806) X dL_law_805 rfl ?_
    refine s_widen 600000 7302250 (by omega) (by omega) ?_
    exact s_zret X dL_law_806
set_option maxRecDepth 4000 in
def m_L_c21 (L : Nat) (xs : Nat → Int32) (k18 : Nat → Nat → Int → hM) (l1 l2 : Nat) (l3 : Int) : hM :=
  hscr L xs (w32 (l3 + 1)) fun v1 =>
  hscr L xs (w32 (l3 + 2)) fun v2 =>
  hscr L xs (w32 (l3 + 3)) fun v3 =>
  hcallV 9 l1 (m_X9_letter l1 v1 v2 v3) fun v4 =>
  hscr L xs (w32 (l3 + 1)) fun v5 =>
  hscr L xs (w32 (l3 + 2)) fun v6 =>
  hscr L xs (w32 (l3 + 3)) fun v7 =>
  hcallV 10 l2 (m_X10_letter l2 v5 v6 v7) fun v8 =>
  hif (v4 = v8) (k18 l1 l2 (w32 (l3 + 6))) (hretZ 0)
theorem z_L_c21 {C : hCx} (hR9 : C.2.2.2.2.1 = room_1) (X : hOK C cL_law RL 4 (some .boolean)) {b L : Nat} {xs : Nat → Int32} (hX : va_X b L xs C.2.2.2.2.2.1 C.1.2.1) (hb : b ≤ C.1.1) (hL : L ≤ 3072) (k18 : Nat → Nat → Int → hM) (hk18 : ∀ (l1 l2 : Nat) (l3 : Int), inI l3 → ∀ (cells slots : Nat), (cells : Int) ≤ 300 + 3 * l3 → (slots : Int) ≤ 17000 + 35 * l3 → hSim C (some .boolean) 600000 7302250 4 18 [(0, .ref b), (1, vR C.1.1 l1), (2, vR C.1.1 l2), (3, vI l3)] [] cells slots (k18 l1 l2 l3)) (l1 l2 : Nat) (l3 : Int) (h3 : inI l3) (p3 : 0 ≤ l3 ∧ l3 ≤ 4000) (cells slots : Nat) (e1 : (cells : Int) ≤ 300 + 3 * l3) (e2 : (slots : Int) ≤ 17000 + 35 * l3) : hSim C (some .boolean) 600000 7302250 4 807 [(0, .ref b), (1, vR C.1.1 l1), (2, vR C.1.1 l2), (3, vI l3)] [] cells slots (m_L_c21 L xs k18 l1 l2 l3) := by
  have hc1 : C.2.2.2.2.1.cells = 600000 := by rw [hR9]; rfl
  have hc2 : C.2.2.2.2.1.slots = 7302250 := by rw [hR9]; rfl
  have hf : 60 + 1 ≤ C.2.2.2.2.1.frames := by rw [hR9]; exact Nat.le_of_ble_eq_true rfl
  have hlo : 50 * 60 + 50 ≤ C.2.2.2.2.1.locals := by rw [hR9]; exact Nat.le_of_ble_eq_true rfl
  have w6 : w32 (l3 + 6) = l3 + 6 := w32_id ⟨by omega, by omega⟩
  unfold m_L_c21
  refine s_aload_n (j := 1) (pc2 := 808) X dL_law_807 rfl rfl ?_
  refine s_sload_n (j := 0) (pc2 := 809) X dL_law_808 rfl rfl ?_
  refine s_iload_n (j := 3) (pc2 := 810) X dL_law_809 rfl rfl ?_
  refine s_iconst (n := 1) (pc2 := 811) X dL_law_810 rfl ?_
  refine s_iadd (pc2 := 812) X dL_law_811 rfl ?_
  refine s_sld (pc2 := 813) X hX hb hL dL_law_812 rfl (fun v1 hv1 => ?_)
  refine s_sload_n (j := 0) (pc2 := 814) X dL_law_813 rfl rfl ?_
  refine s_iload_n (j := 3) (pc2 := 815) X dL_law_814 rfl rfl ?_
  refine s_iconst (n := 2) (pc2 := 816) X dL_law_815 rfl ?_
  refine s_iadd (pc2 := 817) X dL_law_816 rfl ?_
  refine s_sld (pc2 := 818) X hX hb hL dL_law_817 rfl (fun v2 hv2 => ?_)
  refine s_sload_n (j := 0) (pc2 := 819) X dL_law_818 rfl rfl ?_
  refine s_iload_n (j := 3) (pc2 := 820) X dL_law_819 rfl rfl ?_
  refine s_iconst (n := 3) (pc2 := 821) X dL_law_820 rfl ?_
  refine s_iadd (pc2 := 822) X dL_law_821 rfl ?_
  refine s_sld (pc2 := 823) X hX hb hL dL_law_822 rfl (fun v3 hv3 => ?_)
  refine s_callVI (d2 := 60) (As := [vI v1, vI v2, vI v3]) (st := []) (pc2 := 826) X dL_law_823 rfl ml_RL_102 im_X9_letter se_X9_letter kX9 rfl (c_X9_letter 60 (by decide) C.1 C.2.2.1 l1 v1 v2 v3 hv1 hv2 hv3) hy_X9_letter rfl rfl hf hlo (st_room (Nat.le_of_ble_eq_true rfl)) ⟨by rw [hc1]; omega, by rw [hc2]; omega⟩ (fun v4 hv4 => ?_)
  refine s_aload_n (j := 2) (pc2 := 827) X dL_law_826 rfl rfl ?_
  refine s_sload_n (j := 0) (pc2 := 828) X dL_law_827 rfl rfl ?_
  refine s_iload_n (j := 3) (pc2 := 829) X dL_law_828 rfl rfl ?_
  refine s_iconst (n := 1) (pc2 := 830) X dL_law_829 rfl ?_
  refine s_iadd (pc2 := 831) X dL_law_830 rfl ?_
  refine s_sld (pc2 := 832) X hX hb hL dL_law_831 rfl (fun v5 hv5 => ?_)
  refine s_sload_n (j := 0) (pc2 := 833) X dL_law_832 rfl rfl ?_
  refine s_iload_n (j := 3) (pc2 := 834) X dL_law_833 rfl rfl ?_
  refine s_iconst (n := 2) (pc2 := 835) X dL_law_834 rfl ?_
  refine s_iadd (pc2 := 836) X dL_law_835 rfl ?_
  refine s_sld (pc2 := 837) X hX hb hL dL_law_836 rfl (fun v6 hv6 => ?_)
  refine s_sload_n (j := 0) (pc2 := 838) X dL_law_837 rfl rfl ?_
  refine s_iload_n (j := 3) (pc2 := 839) X dL_law_838 rfl rfl ?_
  refine s_iconst (n := 3) (pc2 := 840) X dL_law_839 rfl ?_
  refine s_iadd (pc2 := 841) X dL_law_840 rfl ?_
  refine s_sld (pc2 := 842) X hX hb hL dL_law_841 rfl (fun v7 hv7 => ?_)
  refine s_callVI (d2 := 60) (As := [vI v5, vI v6, vI v7]) (st := [vI v4]) (pc2 := 845) X dL_law_842 rfl ml_RL_105 im_X10_letter se_X10_letter kX10 rfl (c_X10_letter 60 (by decide) C.1 C.2.2.1 l2 v5 v6 v7 hv5 hv6 hv7) hy_X10_letter rfl rfl hf hlo (st_room (Nat.le_of_ble_eq_true rfl)) ⟨by rw [hc1]; omega, by rw [hc2]; omega⟩ (fun v8 hv8 => ?_)
  refine s_iceq (tgt := 1051) (pc2 := 848) X dL_law_845 (by decide) rfl hv4 hv8 ?_ ?_
  · refine s_iincK (j := 3) (y := w32 (l3 + 6)) (pc2 := 1054) X dL_law_1051 rfl (by decide) rfl rfl rfl rfl cat1_R ?_
    refine s_goto (pc2 := 18) X dL_law_1054 (by decide) ?_
    refine s_sub (lv2 := [(0, .ref b), (1, vR C.1.1 l1), (2, vR C.1.1 l2), (3, vI (w32 (l3 + 6)))]) [1, 2, 3, 0] rfl ?_
    exact hk18 l1 l2 _ (w32_in _) _ _ (by omega) (by omega)
  · refine s_iconst (n := 0) (pc2 := 849) X dL_law_848 rfl ?_
    refine s_widen 600000 7302250 (by omega) (by omega) ?_
    exact s_zret X dL_law_849
set_option maxRecDepth 4000 in
def m_L_c22 (L : Nat) (xs : Nat → Int32) (k18 : Nat → Nat → Int → hM) (l1 l2 : Nat) (l3 : Int) : hM :=
  hscr L xs (w32 (l3 + 1)) fun v1 =>
  hscr L xs (w32 (l3 + 2)) fun v2 =>
  hcallV 9 l1 (m_X9_came l1 v1 v2) fun v3 =>
  hscr L xs (w32 (l3 + 1)) fun v4 =>
  hscr L xs (w32 (l3 + 2)) fun v5 =>
  hcallV 10 l2 (m_X10_came l2 v4 v5) fun v6 =>
  hif (v3 = v6) (k18 l1 l2 (w32 (l3 + 6))) (hretZ 0)
theorem z_L_c22 {C : hCx} (hR9 : C.2.2.2.2.1 = room_1) (X : hOK C cL_law RL 4 (some .boolean)) {b L : Nat} {xs : Nat → Int32} (hX : va_X b L xs C.2.2.2.2.2.1 C.1.2.1) (hb : b ≤ C.1.1) (hL : L ≤ 3072) (k18 : Nat → Nat → Int → hM) (hk18 : ∀ (l1 l2 : Nat) (l3 : Int), inI l3 → ∀ (cells slots : Nat), (cells : Int) ≤ 300 + 3 * l3 → (slots : Int) ≤ 17000 + 35 * l3 → hSim C (some .boolean) 600000 7302250 4 18 [(0, .ref b), (1, vR C.1.1 l1), (2, vR C.1.1 l2), (3, vI l3)] [] cells slots (k18 l1 l2 l3)) (l1 l2 : Nat) (l3 : Int) (h3 : inI l3) (p3 : 0 ≤ l3 ∧ l3 ≤ 4000) (cells slots : Nat) (e1 : (cells : Int) ≤ 300 + 3 * l3) (e2 : (slots : Int) ≤ 17000 + 35 * l3) : hSim C (some .boolean) 600000 7302250 4 850 [(0, .ref b), (1, vR C.1.1 l1), (2, vR C.1.1 l2), (3, vI l3)] [] cells slots (m_L_c22 L xs k18 l1 l2 l3) := by
  have hc1 : C.2.2.2.2.1.cells = 600000 := by rw [hR9]; rfl
  have hc2 : C.2.2.2.2.1.slots = 7302250 := by rw [hR9]; rfl
  have hf : 60 + 1 ≤ C.2.2.2.2.1.frames := by rw [hR9]; exact Nat.le_of_ble_eq_true rfl
  have hlo : 50 * 60 + 50 ≤ C.2.2.2.2.1.locals := by rw [hR9]; exact Nat.le_of_ble_eq_true rfl
  have w6 : w32 (l3 + 6) = l3 + 6 := w32_id ⟨by omega, by omega⟩
  unfold m_L_c22
  refine s_aload_n (j := 1) (pc2 := 851) X dL_law_850 rfl rfl ?_
  refine s_sload_n (j := 0) (pc2 := 852) X dL_law_851 rfl rfl ?_
  refine s_iload_n (j := 3) (pc2 := 853) X dL_law_852 rfl rfl ?_
  refine s_iconst (n := 1) (pc2 := 854) X dL_law_853 rfl ?_
  refine s_iadd (pc2 := 855) X dL_law_854 rfl ?_
  refine s_sld (pc2 := 856) X hX hb hL dL_law_855 rfl (fun v1 hv1 => ?_)
  refine s_sload_n (j := 0) (pc2 := 857) X dL_law_856 rfl rfl ?_
  refine s_iload_n (j := 3) (pc2 := 858) X dL_law_857 rfl rfl ?_
  refine s_iconst (n := 2) (pc2 := 859) X dL_law_858 rfl ?_
  refine s_iadd (pc2 := 860) X dL_law_859 rfl ?_
  refine s_sld (pc2 := 861) X hX hb hL dL_law_860 rfl (fun v2 hv2 => ?_)
  refine s_callVI (d2 := 60) (As := [vI v1, vI v2]) (st := []) (pc2 := 864) X dL_law_861 rfl ml_RL_106 im_X9_came se_X9_came kX9 rfl (c_X9_came 60 (by decide) C.1 C.2.2.1 l1 v1 v2 hv1 hv2) hy_X9_came rfl rfl hf hlo (st_room (Nat.le_of_ble_eq_true rfl)) ⟨by rw [hc1]; omega, by rw [hc2]; omega⟩ (fun v3 hv3 => ?_)
  refine s_aload_n (j := 2) (pc2 := 865) X dL_law_864 rfl rfl ?_
  refine s_sload_n (j := 0) (pc2 := 866) X dL_law_865 rfl rfl ?_
  refine s_iload_n (j := 3) (pc2 := 867) X dL_law_866 rfl rfl ?_
  refine s_iconst (n := 1) (pc2 := 868) X dL_law_867 rfl ?_
  refine s_iadd (pc2 := 869) X dL_law_868 rfl ?_
  refine s_sld (pc2 := 870) X hX hb hL dL_law_869 rfl (fun v4 hv4 => ?_)
  refine s_sload_n (j := 0) (pc2 := 871) X dL_law_870 rfl rfl ?_
  refine s_iload_n (j := 3) (pc2 := 872) X dL_law_871 rfl rfl ?_
  refine s_iconst (n := 2) (pc2 := 873) X dL_law_872 rfl ?_
  refine s_iadd (pc2 := 874) X dL_law_873 rfl ?_
  refine s_sld (pc2 := 875) X hX hb hL dL_law_874 rfl (fun v5 hv5 => ?_)
  refine s_callVI (d2 := 60) (As := [vI v4, vI v5]) (st := [vI v3]) (pc2 := 878) X dL_law_875 rfl ml_RL_109 im_X10_came se_X10_came kX10 rfl (c_X10_came 60 (by decide) C.1 C.2.2.1 l2 v4 v5 hv4 hv5) hy_X10_came rfl rfl hf hlo (st_room (Nat.le_of_ble_eq_true rfl)) ⟨by rw [hc1]; omega, by rw [hc2]; omega⟩ (fun v6 hv6 => ?_)
  refine s_iceq (tgt := 1051) (pc2 := 881) X dL_law_878 (by decide) rfl hv3 hv6 ?_ ?_
  · refine s_iincK (j := 3) (y := w32 (l3 + 6)) (pc2 := 1054) X dL_law_1051 rfl (by decide) rfl rfl rfl rfl cat1_R ?_
    refine s_goto (pc2 := 18) X dL_law_1054 (by decide) ?_
    refine s_sub (lv2 := [(0, .ref b), (1, vR C.1.1 l1), (2, vR C.1.1 l2), (3, vI (w32 (l3 + 6)))]) [1, 2, 3, 0] rfl ?_
    exact hk18 l1 l2 _ (w32_in _) _ _ (by omega) (by omega)
  · refine s_iconst (n := 0) (pc2 := 882) X dL_law_881 rfl ?_
    refine s_widen 600000 7302250 (by omega) (by omega) ?_
    exact s_zret X dL_law_882
set_option maxRecDepth 4000 in
def m_L_c23 (L : Nat) (xs : Nat → Int32) (k18 : Nat → Nat → Int → hM) (l1 l2 : Nat) (l3 : Int) : hM :=
  hscr L xs (w32 (l3 + 1)) fun v1 =>
  hscr L xs (w32 (l3 + 2)) fun v2 =>
  hcallV 9 l1 (m_X9_trail l1 v1 v2) fun v3 =>
  hscr L xs (w32 (l3 + 1)) fun v4 =>
  hscr L xs (w32 (l3 + 2)) fun v5 =>
  hcallV 10 l2 (m_X10_trail l2 v4 v5) fun v6 =>
  hif (v3 = v6) (k18 l1 l2 (w32 (l3 + 6))) (hretZ 0)
theorem z_L_c23 {C : hCx} (hR9 : C.2.2.2.2.1 = room_1) (X : hOK C cL_law RL 4 (some .boolean)) {b L : Nat} {xs : Nat → Int32} (hX : va_X b L xs C.2.2.2.2.2.1 C.1.2.1) (hb : b ≤ C.1.1) (hL : L ≤ 3072) (k18 : Nat → Nat → Int → hM) (hk18 : ∀ (l1 l2 : Nat) (l3 : Int), inI l3 → ∀ (cells slots : Nat), (cells : Int) ≤ 300 + 3 * l3 → (slots : Int) ≤ 17000 + 35 * l3 → hSim C (some .boolean) 600000 7302250 4 18 [(0, .ref b), (1, vR C.1.1 l1), (2, vR C.1.1 l2), (3, vI l3)] [] cells slots (k18 l1 l2 l3)) (l1 l2 : Nat) (l3 : Int) (h3 : inI l3) (p3 : 0 ≤ l3 ∧ l3 ≤ 4000) (cells slots : Nat) (e1 : (cells : Int) ≤ 300 + 3 * l3) (e2 : (slots : Int) ≤ 17000 + 35 * l3) : hSim C (some .boolean) 600000 7302250 4 883 [(0, .ref b), (1, vR C.1.1 l1), (2, vR C.1.1 l2), (3, vI l3)] [] cells slots (m_L_c23 L xs k18 l1 l2 l3) := by
  have hc1 : C.2.2.2.2.1.cells = 600000 := by rw [hR9]; rfl
  have hc2 : C.2.2.2.2.1.slots = 7302250 := by rw [hR9]; rfl
  have hf : 60 + 1 ≤ C.2.2.2.2.1.frames := by rw [hR9]; exact Nat.le_of_ble_eq_true rfl
  have hlo : 50 * 60 + 50 ≤ C.2.2.2.2.1.locals := by rw [hR9]; exact Nat.le_of_ble_eq_true rfl
  have w6 : w32 (l3 + 6) = l3 + 6 := w32_id ⟨by omega, by omega⟩
  unfold m_L_c23
  refine s_aload_n (j := 1) (pc2 := 884) X dL_law_883 rfl rfl ?_
  refine s_sload_n (j := 0) (pc2 := 885) X dL_law_884 rfl rfl ?_
  refine s_iload_n (j := 3) (pc2 := 886) X dL_law_885 rfl rfl ?_
  refine s_iconst (n := 1) (pc2 := 887) X dL_law_886 rfl ?_
  refine s_iadd (pc2 := 888) X dL_law_887 rfl ?_
  refine s_sld (pc2 := 889) X hX hb hL dL_law_888 rfl (fun v1 hv1 => ?_)
  refine s_sload_n (j := 0) (pc2 := 890) X dL_law_889 rfl rfl ?_
  refine s_iload_n (j := 3) (pc2 := 891) X dL_law_890 rfl rfl ?_
  refine s_iconst (n := 2) (pc2 := 892) X dL_law_891 rfl ?_
  refine s_iadd (pc2 := 893) X dL_law_892 rfl ?_
  refine s_sld (pc2 := 894) X hX hb hL dL_law_893 rfl (fun v2 hv2 => ?_)
  refine s_callVI (d2 := 60) (As := [vI v1, vI v2]) (st := []) (pc2 := 897) X dL_law_894 rfl ml_RL_110 im_X9_trail se_X9_trail kX9 rfl (c_X9_trail 60 (by decide) C.1 C.2.2.1 l1 v1 v2 hv1 hv2) hy_X9_trail rfl rfl hf hlo (st_room (Nat.le_of_ble_eq_true rfl)) ⟨by rw [hc1]; omega, by rw [hc2]; omega⟩ (fun v3 hv3 => ?_)
  refine s_aload_n (j := 2) (pc2 := 898) X dL_law_897 rfl rfl ?_
  refine s_sload_n (j := 0) (pc2 := 899) X dL_law_898 rfl rfl ?_
  refine s_iload_n (j := 3) (pc2 := 900) X dL_law_899 rfl rfl ?_
  refine s_iconst (n := 1) (pc2 := 901) X dL_law_900 rfl ?_
  refine s_iadd (pc2 := 902) X dL_law_901 rfl ?_
  refine s_sld (pc2 := 903) X hX hb hL dL_law_902 rfl (fun v4 hv4 => ?_)
  refine s_sload_n (j := 0) (pc2 := 904) X dL_law_903 rfl rfl ?_
  refine s_iload_n (j := 3) (pc2 := 905) X dL_law_904 rfl rfl ?_
  refine s_iconst (n := 2) (pc2 := 906) X dL_law_905 rfl ?_
  refine s_iadd (pc2 := 907) X dL_law_906 rfl ?_
  refine s_sld (pc2 := 908) X hX hb hL dL_law_907 rfl (fun v5 hv5 => ?_)
  refine s_callVI (d2 := 60) (As := [vI v4, vI v5]) (st := [vI v3]) (pc2 := 911) X dL_law_908 rfl ml_RL_113 im_X10_trail se_X10_trail kX10 rfl (c_X10_trail 60 (by decide) C.1 C.2.2.1 l2 v4 v5 hv4 hv5) hy_X10_trail rfl rfl hf hlo (st_room (Nat.le_of_ble_eq_true rfl)) ⟨by rw [hc1]; omega, by rw [hc2]; omega⟩ (fun v6 hv6 => ?_)
  refine s_iceq (tgt := 1051) (pc2 := 914) X dL_law_911 (by decide) rfl hv3 hv6 ?_ ?_
  · refine s_iincK (j := 3) (y := w32 (l3 + 6)) (pc2 := 1054) X dL_law_1051 rfl (by decide) rfl rfl rfl rfl cat1_R ?_
    refine s_goto (pc2 := 18) X dL_law_1054 (by decide) ?_
    refine s_sub (lv2 := [(0, .ref b), (1, vR C.1.1 l1), (2, vR C.1.1 l2), (3, vI (w32 (l3 + 6)))]) [1, 2, 3, 0] rfl ?_
    exact hk18 l1 l2 _ (w32_in _) _ _ (by omega) (by omega)
  · refine s_iconst (n := 0) (pc2 := 915) X dL_law_914 rfl ?_
    refine s_widen 600000 7302250 (by omega) (by omega) ?_
    exact s_zret X dL_law_915
set_option maxRecDepth 4000 in
def m_L_c24 (L : Nat) (xs : Nat → Int32) (k18 : Nat → Nat → Int → hM) (l1 l2 : Nat) (l3 : Int) : hM :=
  hscr L xs (w32 (l3 + 1)) fun v1 =>
  hcallV 9 l1 (m_X9_seed l1 v1) fun v2 =>
  hscr L xs (w32 (l3 + 1)) fun v3 =>
  hcallV 10 l2 (m_X10_seed l2 v3) fun v4 =>
  hif (v2 = v4) (k18 l1 l2 (w32 (l3 + 6))) (hretZ 0)
theorem z_L_c24 {C : hCx} (hR9 : C.2.2.2.2.1 = room_1) (X : hOK C cL_law RL 4 (some .boolean)) {b L : Nat} {xs : Nat → Int32} (hX : va_X b L xs C.2.2.2.2.2.1 C.1.2.1) (hb : b ≤ C.1.1) (hL : L ≤ 3072) (k18 : Nat → Nat → Int → hM) (hk18 : ∀ (l1 l2 : Nat) (l3 : Int), inI l3 → ∀ (cells slots : Nat), (cells : Int) ≤ 300 + 3 * l3 → (slots : Int) ≤ 17000 + 35 * l3 → hSim C (some .boolean) 600000 7302250 4 18 [(0, .ref b), (1, vR C.1.1 l1), (2, vR C.1.1 l2), (3, vI l3)] [] cells slots (k18 l1 l2 l3)) (l1 l2 : Nat) (l3 : Int) (h3 : inI l3) (p3 : 0 ≤ l3 ∧ l3 ≤ 4000) (cells slots : Nat) (e1 : (cells : Int) ≤ 300 + 3 * l3) (e2 : (slots : Int) ≤ 17000 + 35 * l3) : hSim C (some .boolean) 600000 7302250 4 916 [(0, .ref b), (1, vR C.1.1 l1), (2, vR C.1.1 l2), (3, vI l3)] [] cells slots (m_L_c24 L xs k18 l1 l2 l3) := by
  have hc1 : C.2.2.2.2.1.cells = 600000 := by rw [hR9]; rfl
  have hc2 : C.2.2.2.2.1.slots = 7302250 := by rw [hR9]; rfl
  have hf : 60 + 1 ≤ C.2.2.2.2.1.frames := by rw [hR9]; exact Nat.le_of_ble_eq_true rfl
  have hlo : 50 * 60 + 50 ≤ C.2.2.2.2.1.locals := by rw [hR9]; exact Nat.le_of_ble_eq_true rfl
  have w6 : w32 (l3 + 6) = l3 + 6 := w32_id ⟨by omega, by omega⟩
  unfold m_L_c24
  refine s_aload_n (j := 1) (pc2 := 917) X dL_law_916 rfl rfl ?_
  refine s_sload_n (j := 0) (pc2 := 918) X dL_law_917 rfl rfl ?_
  refine s_iload_n (j := 3) (pc2 := 919) X dL_law_918 rfl rfl ?_
  refine s_iconst (n := 1) (pc2 := 920) X dL_law_919 rfl ?_
  refine s_iadd (pc2 := 921) X dL_law_920 rfl ?_
  refine s_sld (pc2 := 922) X hX hb hL dL_law_921 rfl (fun v1 hv1 => ?_)
  refine s_callVI (d2 := 60) (As := [vI v1]) (st := []) (pc2 := 925) X dL_law_922 rfl ml_RL_114 im_X9_seed se_X9_seed kX9 rfl (c_X9_seed 60 (by decide) C.1 C.2.2.1 l1 v1 hv1) hy_X9_seed rfl rfl hf hlo (st_room (Nat.le_of_ble_eq_true rfl)) ⟨by rw [hc1]; omega, by rw [hc2]; omega⟩ (fun v2 hv2 => ?_)
  refine s_aload_n (j := 2) (pc2 := 926) X dL_law_925 rfl rfl ?_
  refine s_sload_n (j := 0) (pc2 := 927) X dL_law_926 rfl rfl ?_
  refine s_iload_n (j := 3) (pc2 := 928) X dL_law_927 rfl rfl ?_
  refine s_iconst (n := 1) (pc2 := 929) X dL_law_928 rfl ?_
  refine s_iadd (pc2 := 930) X dL_law_929 rfl ?_
  refine s_sld (pc2 := 931) X hX hb hL dL_law_930 rfl (fun v3 hv3 => ?_)
  refine s_callVI (d2 := 60) (As := [vI v3]) (st := [vI v2]) (pc2 := 934) X dL_law_931 rfl ml_RL_117 im_X10_seed se_X10_seed kX10 rfl (c_X10_seed 60 (by decide) C.1 C.2.2.1 l2 v3 hv3) hy_X10_seed rfl rfl hf hlo (st_room (Nat.le_of_ble_eq_true rfl)) ⟨by rw [hc1]; omega, by rw [hc2]; omega⟩ (fun v4 hv4 => ?_)
  refine s_iceq (tgt := 1051) (pc2 := 937) X dL_law_934 (by decide) rfl hv2 hv4 ?_ ?_
  · refine s_iincK (j := 3) (y := w32 (l3 + 6)) (pc2 := 1054) X dL_law_1051 rfl (by decide) rfl rfl rfl rfl cat1_R ?_
    refine s_goto (pc2 := 18) X dL_law_1054 (by decide) ?_
    refine s_sub (lv2 := [(0, .ref b), (1, vR C.1.1 l1), (2, vR C.1.1 l2), (3, vI (w32 (l3 + 6)))]) [1, 2, 3, 0] rfl ?_
    exact hk18 l1 l2 _ (w32_in _) _ _ (by omega) (by omega)
  · refine s_iconst (n := 0) (pc2 := 938) X dL_law_937 rfl ?_
    refine s_widen 600000 7302250 (by omega) (by omega) ?_
    exact s_zret X dL_law_938
set_option maxRecDepth 4000 in
def m_L_c25 (L : Nat) (xs : Nat → Int32) (k18 : Nat → Nat → Int → hM) (l1 l2 : Nat) (l3 : Int) : hM :=
  hscr L xs (w32 (l3 + 1)) fun v1 =>
  hscr L xs (w32 (l3 + 2)) fun v2 =>
  hscr L xs (w32 (l3 + 3)) fun v3 =>
  hcallV 9 l1 (m_X9_lives l1 v1 v2 v3) fun v4 =>
  hscr L xs (w32 (l3 + 1)) fun v5 =>
  hscr L xs (w32 (l3 + 2)) fun v6 =>
  hscr L xs (w32 (l3 + 3)) fun v7 =>
  hcallV 10 l2 (m_X10_lives l2 v5 v6 v7) fun v8 =>
  hif (v4 = v8) (k18 l1 l2 (w32 (l3 + 6))) (hretZ 0)
theorem z_L_c25 {C : hCx} (hR9 : C.2.2.2.2.1 = room_1) (X : hOK C cL_law RL 4 (some .boolean)) {b L : Nat} {xs : Nat → Int32} (hX : va_X b L xs C.2.2.2.2.2.1 C.1.2.1) (hb : b ≤ C.1.1) (hL : L ≤ 3072) (k18 : Nat → Nat → Int → hM) (hk18 : ∀ (l1 l2 : Nat) (l3 : Int), inI l3 → ∀ (cells slots : Nat), (cells : Int) ≤ 300 + 3 * l3 → (slots : Int) ≤ 17000 + 35 * l3 → hSim C (some .boolean) 600000 7302250 4 18 [(0, .ref b), (1, vR C.1.1 l1), (2, vR C.1.1 l2), (3, vI l3)] [] cells slots (k18 l1 l2 l3)) (l1 l2 : Nat) (l3 : Int) (h3 : inI l3) (p3 : 0 ≤ l3 ∧ l3 ≤ 4000) (cells slots : Nat) (e1 : (cells : Int) ≤ 300 + 3 * l3) (e2 : (slots : Int) ≤ 17000 + 35 * l3) : hSim C (some .boolean) 600000 7302250 4 939 [(0, .ref b), (1, vR C.1.1 l1), (2, vR C.1.1 l2), (3, vI l3)] [] cells slots (m_L_c25 L xs k18 l1 l2 l3) := by
  have hc1 : C.2.2.2.2.1.cells = 600000 := by rw [hR9]; rfl
  have hc2 : C.2.2.2.2.1.slots = 7302250 := by rw [hR9]; rfl
  have hf : 60 + 1 ≤ C.2.2.2.2.1.frames := by rw [hR9]; exact Nat.le_of_ble_eq_true rfl
  have hlo : 50 * 60 + 50 ≤ C.2.2.2.2.1.locals := by rw [hR9]; exact Nat.le_of_ble_eq_true rfl
  have w6 : w32 (l3 + 6) = l3 + 6 := w32_id ⟨by omega, by omega⟩
  unfold m_L_c25
  refine s_aload_n (j := 1) (pc2 := 940) X dL_law_939 rfl rfl ?_
  refine s_sload_n (j := 0) (pc2 := 941) X dL_law_940 rfl rfl ?_
  refine s_iload_n (j := 3) (pc2 := 942) X dL_law_941 rfl rfl ?_
  refine s_iconst (n := 1) (pc2 := 943) X dL_law_942 rfl ?_
  refine s_iadd (pc2 := 944) X dL_law_943 rfl ?_
  refine s_sld (pc2 := 945) X hX hb hL dL_law_944 rfl (fun v1 hv1 => ?_)
  refine s_sload_n (j := 0) (pc2 := 946) X dL_law_945 rfl rfl ?_
  refine s_iload_n (j := 3) (pc2 := 947) X dL_law_946 rfl rfl ?_
  refine s_iconst (n := 2) (pc2 := 948) X dL_law_947 rfl ?_
  refine s_iadd (pc2 := 949) X dL_law_948 rfl ?_
  refine s_sld (pc2 := 950) X hX hb hL dL_law_949 rfl (fun v2 hv2 => ?_)
  refine s_sload_n (j := 0) (pc2 := 951) X dL_law_950 rfl rfl ?_
  refine s_iload_n (j := 3) (pc2 := 952) X dL_law_951 rfl rfl ?_
  refine s_iconst (n := 3) (pc2 := 953) X dL_law_952 rfl ?_
  refine s_iadd (pc2 := 954) X dL_law_953 rfl ?_
  refine s_sld (pc2 := 955) X hX hb hL dL_law_954 rfl (fun v3 hv3 => ?_)
  refine s_callVI (d2 := 60) (As := [vI v1, vI v2, vI v3]) (st := []) (pc2 := 958) X dL_law_955 rfl ml_RL_118 im_X9_lives se_X9_lives kX9 rfl (c_X9_lives 60 (by decide) C.1 C.2.2.1 l1 v1 v2 v3 hv1 hv2 hv3) hy_X9_lives rfl rfl hf hlo (st_room (Nat.le_of_ble_eq_true rfl)) ⟨by rw [hc1]; omega, by rw [hc2]; omega⟩ (fun v4 hv4 => ?_)
  refine s_aload_n (j := 2) (pc2 := 959) X dL_law_958 rfl rfl ?_
  refine s_sload_n (j := 0) (pc2 := 960) X dL_law_959 rfl rfl ?_
  refine s_iload_n (j := 3) (pc2 := 961) X dL_law_960 rfl rfl ?_
  refine s_iconst (n := 1) (pc2 := 962) X dL_law_961 rfl ?_
  refine s_iadd (pc2 := 963) X dL_law_962 rfl ?_
  refine s_sld (pc2 := 964) X hX hb hL dL_law_963 rfl (fun v5 hv5 => ?_)
  refine s_sload_n (j := 0) (pc2 := 965) X dL_law_964 rfl rfl ?_
  refine s_iload_n (j := 3) (pc2 := 966) X dL_law_965 rfl rfl ?_
  refine s_iconst (n := 2) (pc2 := 967) X dL_law_966 rfl ?_
  refine s_iadd (pc2 := 968) X dL_law_967 rfl ?_
  refine s_sld (pc2 := 969) X hX hb hL dL_law_968 rfl (fun v6 hv6 => ?_)
  refine s_sload_n (j := 0) (pc2 := 970) X dL_law_969 rfl rfl ?_
  refine s_iload_n (j := 3) (pc2 := 971) X dL_law_970 rfl rfl ?_
  refine s_iconst (n := 3) (pc2 := 972) X dL_law_971 rfl ?_
  refine s_iadd (pc2 := 973) X dL_law_972 rfl ?_
  refine s_sld (pc2 := 974) X hX hb hL dL_law_973 rfl (fun v7 hv7 => ?_)
  refine s_callVI (d2 := 60) (As := [vI v5, vI v6, vI v7]) (st := [vI v4]) (pc2 := 977) X dL_law_974 rfl ml_RL_121 im_X10_lives se_X10_lives kX10 rfl (c_X10_lives 60 (by decide) C.1 C.2.2.1 l2 v5 v6 v7 hv5 hv6 hv7) hy_X10_lives rfl rfl hf hlo (st_room (Nat.le_of_ble_eq_true rfl)) ⟨by rw [hc1]; omega, by rw [hc2]; omega⟩ (fun v8 hv8 => ?_)
  refine s_iceq (tgt := 1051) (pc2 := 980) X dL_law_977 (by decide) rfl hv4 hv8 ?_ ?_
  · refine s_iincK (j := 3) (y := w32 (l3 + 6)) (pc2 := 1054) X dL_law_1051 rfl (by decide) rfl rfl rfl rfl cat1_R ?_
    refine s_goto (pc2 := 18) X dL_law_1054 (by decide) ?_
    refine s_sub (lv2 := [(0, .ref b), (1, vR C.1.1 l1), (2, vR C.1.1 l2), (3, vI (w32 (l3 + 6)))]) [1, 2, 3, 0] rfl ?_
    exact hk18 l1 l2 _ (w32_in _) _ _ (by omega) (by omega)
  · refine s_iconst (n := 0) (pc2 := 981) X dL_law_980 rfl ?_
    refine s_widen 600000 7302250 (by omega) (by omega) ?_
    exact s_zret X dL_law_981
set_option maxRecDepth 4000 in
def m_L_c26 (L : Nat) (xs : Nat → Int32) (k18 : Nat → Nat → Int → hM) (l1 l2 : Nat) (l3 : Int) : hM :=
  hscr L xs (w32 (l3 + 1)) fun v1 =>
  hcallV 9 l1 (m_X9_count l1 v1) fun v2 =>
  hscr L xs (w32 (l3 + 1)) fun v3 =>
  hcallV 10 l2 (m_X10_count l2 v3) fun v4 =>
  hif (v2 = v4) (k18 l1 l2 (w32 (l3 + 6))) (hretZ 0)
theorem z_L_c26 {C : hCx} (hR9 : C.2.2.2.2.1 = room_1) (X : hOK C cL_law RL 4 (some .boolean)) {b L : Nat} {xs : Nat → Int32} (hX : va_X b L xs C.2.2.2.2.2.1 C.1.2.1) (hb : b ≤ C.1.1) (hL : L ≤ 3072) (k18 : Nat → Nat → Int → hM) (hk18 : ∀ (l1 l2 : Nat) (l3 : Int), inI l3 → ∀ (cells slots : Nat), (cells : Int) ≤ 300 + 3 * l3 → (slots : Int) ≤ 17000 + 35 * l3 → hSim C (some .boolean) 600000 7302250 4 18 [(0, .ref b), (1, vR C.1.1 l1), (2, vR C.1.1 l2), (3, vI l3)] [] cells slots (k18 l1 l2 l3)) (l1 l2 : Nat) (l3 : Int) (h3 : inI l3) (p3 : 0 ≤ l3 ∧ l3 ≤ 4000) (cells slots : Nat) (e1 : (cells : Int) ≤ 300 + 3 * l3) (e2 : (slots : Int) ≤ 17000 + 35 * l3) : hSim C (some .boolean) 600000 7302250 4 982 [(0, .ref b), (1, vR C.1.1 l1), (2, vR C.1.1 l2), (3, vI l3)] [] cells slots (m_L_c26 L xs k18 l1 l2 l3) := by
  have hc1 : C.2.2.2.2.1.cells = 600000 := by rw [hR9]; rfl
  have hc2 : C.2.2.2.2.1.slots = 7302250 := by rw [hR9]; rfl
  have hf : 60 + 1 ≤ C.2.2.2.2.1.frames := by rw [hR9]; exact Nat.le_of_ble_eq_true rfl
  have hlo : 50 * 60 + 50 ≤ C.2.2.2.2.1.locals := by rw [hR9]; exact Nat.le_of_ble_eq_true rfl
  have w6 : w32 (l3 + 6) = l3 + 6 := w32_id ⟨by omega, by omega⟩
  unfold m_L_c26
  refine s_aload_n (j := 1) (pc2 := 983) X dL_law_982 rfl rfl ?_
  refine s_sload_n (j := 0) (pc2 := 984) X dL_law_983 rfl rfl ?_
  refine s_iload_n (j := 3) (pc2 := 985) X dL_law_984 rfl rfl ?_
  refine s_iconst (n := 1) (pc2 := 986) X dL_law_985 rfl ?_
  refine s_iadd (pc2 := 987) X dL_law_986 rfl ?_
  refine s_sld (pc2 := 988) X hX hb hL dL_law_987 rfl (fun v1 hv1 => ?_)
  refine s_callVI (d2 := 60) (As := [vI v1]) (st := []) (pc2 := 991) X dL_law_988 rfl ml_RL_122 im_X9_count se_X9_count kX9 rfl (c_X9_count 60 (by decide) C.1 C.2.2.1 l1 v1 hv1) hy_X9_count rfl rfl hf hlo (st_room (Nat.le_of_ble_eq_true rfl)) ⟨by rw [hc1]; omega, by rw [hc2]; omega⟩ (fun v2 hv2 => ?_)
  refine s_aload_n (j := 2) (pc2 := 992) X dL_law_991 rfl rfl ?_
  refine s_sload_n (j := 0) (pc2 := 993) X dL_law_992 rfl rfl ?_
  refine s_iload_n (j := 3) (pc2 := 994) X dL_law_993 rfl rfl ?_
  refine s_iconst (n := 1) (pc2 := 995) X dL_law_994 rfl ?_
  refine s_iadd (pc2 := 996) X dL_law_995 rfl ?_
  refine s_sld (pc2 := 997) X hX hb hL dL_law_996 rfl (fun v3 hv3 => ?_)
  refine s_callVI (d2 := 60) (As := [vI v3]) (st := [vI v2]) (pc2 := 1000) X dL_law_997 rfl ml_RL_125 im_X10_count se_X10_count kX10 rfl (c_X10_count 60 (by decide) C.1 C.2.2.1 l2 v3 hv3) hy_X10_count rfl rfl hf hlo (st_room (Nat.le_of_ble_eq_true rfl)) ⟨by rw [hc1]; omega, by rw [hc2]; omega⟩ (fun v4 hv4 => ?_)
  refine s_iceq (tgt := 1051) (pc2 := 1003) X dL_law_1000 (by decide) rfl hv2 hv4 ?_ ?_
  · refine s_iincK (j := 3) (y := w32 (l3 + 6)) (pc2 := 1054) X dL_law_1051 rfl (by decide) rfl rfl rfl rfl cat1_R ?_
    refine s_goto (pc2 := 18) X dL_law_1054 (by decide) ?_
    refine s_sub (lv2 := [(0, .ref b), (1, vR C.1.1 l1), (2, vR C.1.1 l2), (3, vI (w32 (l3 + 6)))]) [1, 2, 3, 0] rfl ?_
    exact hk18 l1 l2 _ (w32_in _) _ _ (by omega) (by omega)
  · refine s_iconst (n := 0) (pc2 := 1004) X dL_law_1003 rfl ?_
    refine s_widen 600000 7302250 (by omega) (by omega) ?_
    exact s_zret X dL_law_1004
set_option maxRecDepth 4000 in
def m_L_c27 (L : Nat) (xs : Nat → Int32) (k18 : Nat → Nat → Int → hM) (l1 l2 : Nat) (l3 : Int) : hM :=
  hscr L xs (w32 (l3 + 1)) fun v1 =>
  hcallV 9 l1 (m_X9_image l1 v1) fun v2 =>
  hscr L xs (w32 (l3 + 1)) fun v3 =>
  hcallV 10 l2 (m_X10_image l2 v3) fun v4 =>
  hif (v2 = v4) (k18 l1 l2 (w32 (l3 + 6))) (hretZ 0)
theorem z_L_c27 {C : hCx} (hR9 : C.2.2.2.2.1 = room_1) (X : hOK C cL_law RL 4 (some .boolean)) {b L : Nat} {xs : Nat → Int32} (hX : va_X b L xs C.2.2.2.2.2.1 C.1.2.1) (hb : b ≤ C.1.1) (hL : L ≤ 3072) (k18 : Nat → Nat → Int → hM) (hk18 : ∀ (l1 l2 : Nat) (l3 : Int), inI l3 → ∀ (cells slots : Nat), (cells : Int) ≤ 300 + 3 * l3 → (slots : Int) ≤ 17000 + 35 * l3 → hSim C (some .boolean) 600000 7302250 4 18 [(0, .ref b), (1, vR C.1.1 l1), (2, vR C.1.1 l2), (3, vI l3)] [] cells slots (k18 l1 l2 l3)) (l1 l2 : Nat) (l3 : Int) (h3 : inI l3) (p3 : 0 ≤ l3 ∧ l3 ≤ 4000) (cells slots : Nat) (e1 : (cells : Int) ≤ 300 + 3 * l3) (e2 : (slots : Int) ≤ 17000 + 35 * l3) : hSim C (some .boolean) 600000 7302250 4 1005 [(0, .ref b), (1, vR C.1.1 l1), (2, vR C.1.1 l2), (3, vI l3)] [] cells slots (m_L_c27 L xs k18 l1 l2 l3) := by
  have hc1 : C.2.2.2.2.1.cells = 600000 := by rw [hR9]; rfl
  have hc2 : C.2.2.2.2.1.slots = 7302250 := by rw [hR9]; rfl
  have hf : 60 + 1 ≤ C.2.2.2.2.1.frames := by rw [hR9]; exact Nat.le_of_ble_eq_true rfl
  have hlo : 50 * 60 + 50 ≤ C.2.2.2.2.1.locals := by rw [hR9]; exact Nat.le_of_ble_eq_true rfl
  have w6 : w32 (l3 + 6) = l3 + 6 := w32_id ⟨by omega, by omega⟩
  unfold m_L_c27
  refine s_aload_n (j := 1) (pc2 := 1006) X dL_law_1005 rfl rfl ?_
  refine s_sload_n (j := 0) (pc2 := 1007) X dL_law_1006 rfl rfl ?_
  refine s_iload_n (j := 3) (pc2 := 1008) X dL_law_1007 rfl rfl ?_
  refine s_iconst (n := 1) (pc2 := 1009) X dL_law_1008 rfl ?_
  refine s_iadd (pc2 := 1010) X dL_law_1009 rfl ?_
  refine s_sld (pc2 := 1011) X hX hb hL dL_law_1010 rfl (fun v1 hv1 => ?_)
  refine s_callVI (d2 := 60) (As := [vI v1]) (st := []) (pc2 := 1014) X dL_law_1011 rfl ml_RL_126 im_X9_image se_X9_image kX9 rfl (c_X9_image 60 (by decide) C.1 C.2.2.1 l1 v1 hv1) hy_X9_image rfl rfl hf hlo (st_room (Nat.le_of_ble_eq_true rfl)) ⟨by rw [hc1]; omega, by rw [hc2]; omega⟩ (fun v2 hv2 => ?_)
  refine s_aload_n (j := 2) (pc2 := 1015) X dL_law_1014 rfl rfl ?_
  refine s_sload_n (j := 0) (pc2 := 1016) X dL_law_1015 rfl rfl ?_
  refine s_iload_n (j := 3) (pc2 := 1017) X dL_law_1016 rfl rfl ?_
  refine s_iconst (n := 1) (pc2 := 1018) X dL_law_1017 rfl ?_
  refine s_iadd (pc2 := 1019) X dL_law_1018 rfl ?_
  refine s_sld (pc2 := 1020) X hX hb hL dL_law_1019 rfl (fun v3 hv3 => ?_)
  refine s_callVI (d2 := 60) (As := [vI v3]) (st := [vI v2]) (pc2 := 1023) X dL_law_1020 rfl ml_RL_129 im_X10_image se_X10_image kX10 rfl (c_X10_image 60 (by decide) C.1 C.2.2.1 l2 v3 hv3) hy_X10_image rfl rfl hf hlo (st_room (Nat.le_of_ble_eq_true rfl)) ⟨by rw [hc1]; omega, by rw [hc2]; omega⟩ (fun v4 hv4 => ?_)
  refine s_iceq (tgt := 1051) (pc2 := 1026) X dL_law_1023 (by decide) rfl hv2 hv4 ?_ ?_
  · refine s_iincK (j := 3) (y := w32 (l3 + 6)) (pc2 := 1054) X dL_law_1051 rfl (by decide) rfl rfl rfl rfl cat1_R ?_
    refine s_goto (pc2 := 18) X dL_law_1054 (by decide) ?_
    refine s_sub (lv2 := [(0, .ref b), (1, vR C.1.1 l1), (2, vR C.1.1 l2), (3, vI (w32 (l3 + 6)))]) [1, 2, 3, 0] rfl ?_
    exact hk18 l1 l2 _ (w32_in _) _ _ (by omega) (by omega)
  · refine s_iconst (n := 0) (pc2 := 1027) X dL_law_1026 rfl ?_
    refine s_widen 600000 7302250 (by omega) (by omega) ?_
    exact s_zret X dL_law_1027
set_option maxRecDepth 4000 in
def m_L_c28 (L : Nat) (xs : Nat → Int32) (k18 : Nat → Nat → Int → hM) (l1 l2 : Nat) (l3 : Int) : hM :=
  hscr L xs (w32 (l3 + 1)) fun v1 =>
  hcallV 9 l1 (m_X9_back l1 v1) fun v2 =>
  hscr L xs (w32 (l3 + 1)) fun v3 =>
  hcallV 10 l2 (m_X10_back l2 v3) fun v4 =>
  hif (v2 = v4) (k18 l1 l2 (w32 (l3 + 6))) (hretZ 0)
theorem z_L_c28 {C : hCx} (hR9 : C.2.2.2.2.1 = room_1) (X : hOK C cL_law RL 4 (some .boolean)) {b L : Nat} {xs : Nat → Int32} (hX : va_X b L xs C.2.2.2.2.2.1 C.1.2.1) (hb : b ≤ C.1.1) (hL : L ≤ 3072) (k18 : Nat → Nat → Int → hM) (hk18 : ∀ (l1 l2 : Nat) (l3 : Int), inI l3 → ∀ (cells slots : Nat), (cells : Int) ≤ 300 + 3 * l3 → (slots : Int) ≤ 17000 + 35 * l3 → hSim C (some .boolean) 600000 7302250 4 18 [(0, .ref b), (1, vR C.1.1 l1), (2, vR C.1.1 l2), (3, vI l3)] [] cells slots (k18 l1 l2 l3)) (l1 l2 : Nat) (l3 : Int) (h3 : inI l3) (p3 : 0 ≤ l3 ∧ l3 ≤ 4000) (cells slots : Nat) (e1 : (cells : Int) ≤ 300 + 3 * l3) (e2 : (slots : Int) ≤ 17000 + 35 * l3) : hSim C (some .boolean) 600000 7302250 4 1028 [(0, .ref b), (1, vR C.1.1 l1), (2, vR C.1.1 l2), (3, vI l3)] [] cells slots (m_L_c28 L xs k18 l1 l2 l3) := by
  have hc1 : C.2.2.2.2.1.cells = 600000 := by rw [hR9]; rfl
  have hc2 : C.2.2.2.2.1.slots = 7302250 := by rw [hR9]; rfl
  have hf : 60 + 1 ≤ C.2.2.2.2.1.frames := by rw [hR9]; exact Nat.le_of_ble_eq_true rfl
  have hlo : 50 * 60 + 50 ≤ C.2.2.2.2.1.locals := by rw [hR9]; exact Nat.le_of_ble_eq_true rfl
  have w6 : w32 (l3 + 6) = l3 + 6 := w32_id ⟨by omega, by omega⟩
  unfold m_L_c28
  refine s_aload_n (j := 1) (pc2 := 1029) X dL_law_1028 rfl rfl ?_
  refine s_sload_n (j := 0) (pc2 := 1030) X dL_law_1029 rfl rfl ?_
  refine s_iload_n (j := 3) (pc2 := 1031) X dL_law_1030 rfl rfl ?_
  refine s_iconst (n := 1) (pc2 := 1032) X dL_law_1031 rfl ?_
  refine s_iadd (pc2 := 1033) X dL_law_1032 rfl ?_
  refine s_sld (pc2 := 1034) X hX hb hL dL_law_1033 rfl (fun v1 hv1 => ?_)
  refine s_callVI (d2 := 60) (As := [vI v1]) (st := []) (pc2 := 1037) X dL_law_1034 rfl ml_RL_130 im_X9_back se_X9_back kX9 rfl (c_X9_back 60 (by decide) C.1 C.2.2.1 l1 v1 hv1) hy_X9_back rfl rfl hf hlo (st_room (Nat.le_of_ble_eq_true rfl)) ⟨by rw [hc1]; omega, by rw [hc2]; omega⟩ (fun v2 hv2 => ?_)
  refine s_aload_n (j := 2) (pc2 := 1038) X dL_law_1037 rfl rfl ?_
  refine s_sload_n (j := 0) (pc2 := 1039) X dL_law_1038 rfl rfl ?_
  refine s_iload_n (j := 3) (pc2 := 1040) X dL_law_1039 rfl rfl ?_
  refine s_iconst (n := 1) (pc2 := 1041) X dL_law_1040 rfl ?_
  refine s_iadd (pc2 := 1042) X dL_law_1041 rfl ?_
  refine s_sld (pc2 := 1043) X hX hb hL dL_law_1042 rfl (fun v3 hv3 => ?_)
  refine s_callVI (d2 := 60) (As := [vI v3]) (st := [vI v2]) (pc2 := 1046) X dL_law_1043 rfl ml_RL_133 im_X10_back se_X10_back kX10 rfl (c_X10_back 60 (by decide) C.1 C.2.2.1 l2 v3 hv3) hy_X10_back rfl rfl hf hlo (st_room (Nat.le_of_ble_eq_true rfl)) ⟨by rw [hc1]; omega, by rw [hc2]; omega⟩ (fun v4 hv4 => ?_)
  refine s_iceq (tgt := 1051) (pc2 := 1049) X dL_law_1046 (by decide) rfl hv2 hv4 ?_ ?_
  · refine s_iincK (j := 3) (y := w32 (l3 + 6)) (pc2 := 1054) X dL_law_1051 rfl (by decide) rfl rfl rfl rfl cat1_R ?_
    refine s_goto (pc2 := 18) X dL_law_1054 (by decide) ?_
    refine s_sub (lv2 := [(0, .ref b), (1, vR C.1.1 l1), (2, vR C.1.1 l2), (3, vI (w32 (l3 + 6)))]) [1, 2, 3, 0] rfl ?_
    exact hk18 l1 l2 _ (w32_in _) _ _ (by omega) (by omega)
  · refine s_iconst (n := 0) (pc2 := 1050) X dL_law_1049 rfl ?_
    refine s_widen 600000 7302250 (by omega) (by omega) ?_
    exact s_zret X dL_law_1050
def m_L_sw (L : Nat) (xs : Nat → Int32) (k18 : Nat → Nat → Int → hM) (l1 l2 : Nat) (l3 : Int) : hM :=
  hassert (0 ≤ l3 ∧ l3 ≤ 4000) <|
  hif (l3 > w32 ((L : Int) - 6)) (hretZ 1) <|
  hscr L xs l3 fun v1 =>
    hif (iandZ v1 31 = 0) (m_L_c0 L xs k18 l1 l2 l3) <|
    hif (iandZ v1 31 = 1) (m_L_c1 L xs k18 l1 l2 l3) <|
    hif (iandZ v1 31 = 2) (m_L_c2 L xs k18 l1 l2 l3) <|
    hif (iandZ v1 31 = 3) (m_L_c3 L xs k18 l1 l2 l3) <|
    hif (iandZ v1 31 = 4) (m_L_c4 L xs k18 l1 l2 l3) <|
    hif (iandZ v1 31 = 5) (m_L_c5 L xs k18 l1 l2 l3) <|
    hif (iandZ v1 31 = 6) (m_L_c6 L xs k18 l1 l2 l3) <|
    hif (iandZ v1 31 = 7) (m_L_c7 L xs k18 l1 l2 l3) <|
    hif (iandZ v1 31 = 8) (m_L_c8 L xs k18 l1 l2 l3) <|
    hif (iandZ v1 31 = 9) (m_L_c9 L xs k18 l1 l2 l3) <|
    hif (iandZ v1 31 = 10) (m_L_c10 L xs k18 l1 l2 l3) <|
    hif (iandZ v1 31 = 11) (m_L_c11 L xs k18 l1 l2 l3) <|
    hif (iandZ v1 31 = 12) (m_L_c12 L xs k18 l1 l2 l3) <|
    hif (iandZ v1 31 = 13) (m_L_c13 L xs k18 l1 l2 l3) <|
    hif (iandZ v1 31 = 14) (m_L_c14 L xs k18 l1 l2 l3) <|
    hif (iandZ v1 31 = 15) (m_L_c15 L xs k18 l1 l2 l3) <|
    hif (iandZ v1 31 = 16) (m_L_c16 L xs k18 l1 l2 l3) <|
    hif (iandZ v1 31 = 17) (m_L_c17 L xs k18 l1 l2 l3) <|
    hif (iandZ v1 31 = 18) (m_L_c18 L xs k18 l1 l2 l3) <|
    hif (iandZ v1 31 = 19) (m_L_c19 L xs k18 l1 l2 l3) <|
    hif (iandZ v1 31 = 20) (m_L_c20 L xs k18 l1 l2 l3) <|
    hif (iandZ v1 31 = 21) (m_L_c21 L xs k18 l1 l2 l3) <|
    hif (iandZ v1 31 = 22) (m_L_c22 L xs k18 l1 l2 l3) <|
    hif (iandZ v1 31 = 23) (m_L_c23 L xs k18 l1 l2 l3) <|
    hif (iandZ v1 31 = 24) (m_L_c24 L xs k18 l1 l2 l3) <|
    hif (iandZ v1 31 = 25) (m_L_c25 L xs k18 l1 l2 l3) <|
    hif (iandZ v1 31 = 26) (m_L_c26 L xs k18 l1 l2 l3) <|
    hif (iandZ v1 31 = 27) (m_L_c27 L xs k18 l1 l2 l3) <|
    hif (iandZ v1 31 = 28) (m_L_c28 L xs k18 l1 l2 l3) <|
    k18 l1 l2 (w32 (l3 + 6))
def m_L_18 (L : Nat) (xs : Nat → Int32) : Nat → Nat → Nat → Int → hM
  | 0, _, _, _ => hfail
  | n + 1, l1, l2, l3 => m_L_sw L xs (m_L_18 L xs n) l1 l2 l3
set_option maxRecDepth 4000 in
theorem z_L_sw {C : hCx} (hR9 : C.2.2.2.2.1 = room_1) (X : hOK C cL_law RL 4 (some .boolean)) {b L : Nat} {xs : Nat → Int32} (hX : va_X b L xs C.2.2.2.2.2.1 C.1.2.1) (hb : b ≤ C.1.1) (hL : L ≤ 3072) (k18 : Nat → Nat → Int → hM) (hk18 : ∀ (l1 l2 : Nat) (l3 : Int), inI l3 → ∀ (cells slots : Nat), (cells : Int) ≤ 300 + 3 * l3 → (slots : Int) ≤ 17000 + 35 * l3 → hSim C (some .boolean) 600000 7302250 4 18 [(0, .ref b), (1, vR C.1.1 l1), (2, vR C.1.1 l2), (3, vI l3)] [] cells slots (k18 l1 l2 l3)) (l1 l2 : Nat) (l3 : Int) (h3 : inI l3) (cells slots : Nat) (e1 : (cells : Int) ≤ 300 + 3 * l3) (e2 : (slots : Int) ≤ 17000 + 35 * l3) : hSim C (some .boolean) 600000 7302250 4 18 [(0, .ref b), (1, vR C.1.1 l1), (2, vR C.1.1 l2), (3, vI l3)] [] cells slots (m_L_sw L xs k18 l1 l2 l3) := by
  have hc1 : C.2.2.2.2.1.cells = 600000 := by rw [hR9]; rfl
  have hc2 : C.2.2.2.2.1.slots = 7302250 := by rw [hR9]; rfl
  have hf : 60 + 1 ≤ C.2.2.2.2.1.frames := by rw [hR9]; exact Nat.le_of_ble_eq_true rfl
  have hlo : 50 * 60 + 50 ≤ C.2.2.2.2.1.locals := by rw [hR9]; exact Nat.le_of_ble_eq_true rfl
  unfold m_L_sw
  refine s_assert (fun p3 => ?_)
  have w6 : w32 (l3 + 6) = l3 + 6 := w32_id ⟨by omega, by omega⟩
  refine s_iload_n (j := 3) (pc2 := 19) X dL_law_18 rfl rfl ?_
  refine s_sload_n (j := 0) (pc2 := 20) X dL_law_19 rfl rfl ?_
  refine s_slen (pc2 := 21) X hX hb dL_law_20 rfl ?_
  refine s_bipush (n := 6) (pc2 := 23) X dL_law_21 rfl rfl ?_
  refine s_isub (pc2 := 24) X dL_law_23 rfl ?_
  refine s_icgt (tgt := 1057) (pc2 := 27) X dL_law_24 (by decide) rfl h3 (w32_in _) ?_ ?_
  · refine s_iconst (n := 1) (pc2 := 1058) X dL_law_1057 rfl ?_
    refine s_widen 600000 7302250 (by omega) (by omega) ?_
    exact s_zret X dL_law_1058
  refine s_sload_n (j := 0) (pc2 := 28) X dL_law_27 rfl rfl ?_
  refine s_iload_n (j := 3) (pc2 := 29) X dL_law_28 rfl rfl ?_
  refine s_sld (pc2 := 30) X hX hb hL dL_law_29 rfl (fun v1 hv1 => ?_)
  refine s_bipush (n := 31) (pc2 := 32) X dL_law_30 rfl rfl ?_
  refine s_iand (pc2 := 33) X dL_law_32 rfl ?_
  refine s_split (fun e33_0 => ?_) (fun e33_0 => ?_)
  · refine s_tsin (tgt := 164) 0 X dL_law_33 e33_0 (inI_c 0 rfl) (by decide) (by decide) rfl (by decide) ?_
    exact z_L_c0 hR9 X hX hb hL k18 hk18 l1 l2 l3 h3 p3 cells slots e1 e2
  refine s_split (fun e33_1 => ?_) (fun e33_1 => ?_)
  · refine s_tsin (tgt := 227) 1 X dL_law_33 e33_1 (inI_c 1 rfl) (by decide) (by decide) rfl (by decide) ?_
    exact z_L_c1 hR9 X hX hb hL k18 hk18 l1 l2 l3 h3 p3 cells slots e1 e2
  refine s_split (fun e33_2 => ?_) (fun e33_2 => ?_)
  · refine s_tsin (tgt := 250) 2 X dL_law_33 e33_2 (inI_c 2 rfl) (by decide) (by decide) rfl (by decide) ?_
    exact z_L_c2 hR9 X hX hb hL k18 hk18 l1 l2 l3 h3 p3 cells slots e1 e2
  refine s_split (fun e33_3 => ?_) (fun e33_3 => ?_)
  · refine s_tsin (tgt := 263) 3 X dL_law_33 e33_3 (inI_c 3 rfl) (by decide) (by decide) rfl (by decide) ?_
    exact z_L_c3 hR9 X hX hb hL k18 hk18 l1 l2 l3 h3 p3 cells slots e1 e2
  refine s_split (fun e33_4 => ?_) (fun e33_4 => ?_)
  · refine s_tsin (tgt := 276) 4 X dL_law_33 e33_4 (inI_c 4 rfl) (by decide) (by decide) rfl (by decide) ?_
    exact z_L_c4 hR9 X hX hb hL k18 hk18 l1 l2 l3 h3 p3 cells slots e1 e2
  refine s_split (fun e33_5 => ?_) (fun e33_5 => ?_)
  · refine s_tsin (tgt := 309) 5 X dL_law_33 e33_5 (inI_c 5 rfl) (by decide) (by decide) rfl (by decide) ?_
    exact z_L_c5 hR9 X hX hb hL k18 hk18 l1 l2 l3 h3 p3 cells slots e1 e2
  refine s_split (fun e33_6 => ?_) (fun e33_6 => ?_)
  · refine s_tsin (tgt := 342) 6 X dL_law_33 e33_6 (inI_c 6 rfl) (by decide) (by decide) rfl (by decide) ?_
    exact z_L_c6 hR9 X hX hb hL k18 hk18 l1 l2 l3 h3 p3 cells slots e1 e2
  refine s_split (fun e33_7 => ?_) (fun e33_7 => ?_)
  · refine s_tsin (tgt := 375) 7 X dL_law_33 e33_7 (inI_c 7 rfl) (by decide) (by decide) rfl (by decide) ?_
    exact z_L_c7 hR9 X hX hb hL k18 hk18 l1 l2 l3 h3 p3 cells slots e1 e2
  refine s_split (fun e33_8 => ?_) (fun e33_8 => ?_)
  · refine s_tsin (tgt := 408) 8 X dL_law_33 e33_8 (inI_c 8 rfl) (by decide) (by decide) rfl (by decide) ?_
    exact z_L_c8 hR9 X hX hb hL k18 hk18 l1 l2 l3 h3 p3 cells slots e1 e2
  refine s_split (fun e33_9 => ?_) (fun e33_9 => ?_)
  · refine s_tsin (tgt := 441) 9 X dL_law_33 e33_9 (inI_c 9 rfl) (by decide) (by decide) rfl (by decide) ?_
    exact z_L_c9 hR9 X hX hb hL k18 hk18 l1 l2 l3 h3 p3 cells slots e1 e2
  refine s_split (fun e33_10 => ?_) (fun e33_10 => ?_)
  · refine s_tsin (tgt := 484) 10 X dL_law_33 e33_10 (inI_c 10 rfl) (by decide) (by decide) rfl (by decide) ?_
    exact z_L_c10 hR9 X hX hb hL k18 hk18 l1 l2 l3 h3 p3 cells slots e1 e2
  refine s_split (fun e33_11 => ?_) (fun e33_11 => ?_)
  · refine s_tsin (tgt := 507) 11 X dL_law_33 e33_11 (inI_c 11 rfl) (by decide) (by decide) rfl (by decide) ?_
    exact z_L_c11 hR9 X hX hb hL k18 hk18 l1 l2 l3 h3 p3 cells slots e1 e2
  refine s_split (fun e33_12 => ?_) (fun e33_12 => ?_)
  · refine s_tsin (tgt := 520) 12 X dL_law_33 e33_12 (inI_c 12 rfl) (by decide) (by decide) rfl (by decide) ?_
    exact z_L_c12 hR9 X hX hb hL k18 hk18 l1 l2 l3 h3 p3 cells slots e1 e2
  refine s_split (fun e33_13 => ?_) (fun e33_13 => ?_)
  · refine s_tsin (tgt := 533) 13 X dL_law_33 e33_13 (inI_c 13 rfl) (by decide) (by decide) rfl (by decide) ?_
    exact z_L_c13 hR9 X hX hb hL k18 hk18 l1 l2 l3 h3 p3 cells slots e1 e2
  refine s_split (fun e33_14 => ?_) (fun e33_14 => ?_)
  · refine s_tsin (tgt := 566) 14 X dL_law_33 e33_14 (inI_c 14 rfl) (by decide) (by decide) rfl (by decide) ?_
    exact z_L_c14 hR9 X hX hb hL k18 hk18 l1 l2 l3 h3 p3 cells slots e1 e2
  refine s_split (fun e33_15 => ?_) (fun e33_15 => ?_)
  · refine s_tsin (tgt := 609) 15 X dL_law_33 e33_15 (inI_c 15 rfl) (by decide) (by decide) rfl (by decide) ?_
    exact z_L_c15 hR9 X hX hb hL k18 hk18 l1 l2 l3 h3 p3 cells slots e1 e2
  refine s_split (fun e33_16 => ?_) (fun e33_16 => ?_)
  · refine s_tsin (tgt := 652) 16 X dL_law_33 e33_16 (inI_c 16 rfl) (by decide) (by decide) rfl (by decide) ?_
    exact z_L_c16 hR9 X hX hb hL k18 hk18 l1 l2 l3 h3 p3 cells slots e1 e2
  refine s_split (fun e33_17 => ?_) (fun e33_17 => ?_)
  · refine s_tsin (tgt := 695) 17 X dL_law_33 e33_17 (inI_c 17 rfl) (by decide) (by decide) rfl (by decide) ?_
    exact z_L_c17 hR9 X hX hb hL k18 hk18 l1 l2 l3 h3 p3 cells slots e1 e2
  refine s_split (fun e33_18 => ?_) (fun e33_18 => ?_)
  · refine s_tsin (tgt := 728) 18 X dL_law_33 e33_18 (inI_c 18 rfl) (by decide) (by decide) rfl (by decide) ?_
    exact z_L_c18 hR9 X hX hb hL k18 hk18 l1 l2 l3 h3 p3 cells slots e1 e2
  refine s_split (fun e33_19 => ?_) (fun e33_19 => ?_)
  · refine s_tsin (tgt := 771) 19 X dL_law_33 e33_19 (inI_c 19 rfl) (by decide) (by decide) rfl (by decide) ?_
    exact z_L_c19 hR9 X hX hb hL k18 hk18 l1 l2 l3 h3 p3 cells slots e1 e2
  refine s_split (fun e33_20 => ?_) (fun e33_20 => ?_)
  · refine s_tsin (tgt := 794) 20 X dL_law_33 e33_20 (inI_c 20 rfl) (by decide) (by decide) rfl (by decide) ?_
    exact z_L_c20 hR9 X hX hb hL k18 hk18 l1 l2 l3 h3 p3 cells slots e1 e2
  refine s_split (fun e33_21 => ?_) (fun e33_21 => ?_)
  · refine s_tsin (tgt := 807) 21 X dL_law_33 e33_21 (inI_c 21 rfl) (by decide) (by decide) rfl (by decide) ?_
    exact z_L_c21 hR9 X hX hb hL k18 hk18 l1 l2 l3 h3 p3 cells slots e1 e2
  refine s_split (fun e33_22 => ?_) (fun e33_22 => ?_)
  · refine s_tsin (tgt := 850) 22 X dL_law_33 e33_22 (inI_c 22 rfl) (by decide) (by decide) rfl (by decide) ?_
    exact z_L_c22 hR9 X hX hb hL k18 hk18 l1 l2 l3 h3 p3 cells slots e1 e2
  refine s_split (fun e33_23 => ?_) (fun e33_23 => ?_)
  · refine s_tsin (tgt := 883) 23 X dL_law_33 e33_23 (inI_c 23 rfl) (by decide) (by decide) rfl (by decide) ?_
    exact z_L_c23 hR9 X hX hb hL k18 hk18 l1 l2 l3 h3 p3 cells slots e1 e2
  refine s_split (fun e33_24 => ?_) (fun e33_24 => ?_)
  · refine s_tsin (tgt := 916) 24 X dL_law_33 e33_24 (inI_c 24 rfl) (by decide) (by decide) rfl (by decide) ?_
    exact z_L_c24 hR9 X hX hb hL k18 hk18 l1 l2 l3 h3 p3 cells slots e1 e2
  refine s_split (fun e33_25 => ?_) (fun e33_25 => ?_)
  · refine s_tsin (tgt := 939) 25 X dL_law_33 e33_25 (inI_c 25 rfl) (by decide) (by decide) rfl (by decide) ?_
    exact z_L_c25 hR9 X hX hb hL k18 hk18 l1 l2 l3 h3 p3 cells slots e1 e2
  refine s_split (fun e33_26 => ?_) (fun e33_26 => ?_)
  · refine s_tsin (tgt := 982) 26 X dL_law_33 e33_26 (inI_c 26 rfl) (by decide) (by decide) rfl (by decide) ?_
    exact z_L_c26 hR9 X hX hb hL k18 hk18 l1 l2 l3 h3 p3 cells slots e1 e2
  refine s_split (fun e33_27 => ?_) (fun e33_27 => ?_)
  · refine s_tsin (tgt := 1005) 27 X dL_law_33 e33_27 (inI_c 27 rfl) (by decide) (by decide) rfl (by decide) ?_
    exact z_L_c27 hR9 X hX hb hL k18 hk18 l1 l2 l3 h3 p3 cells slots e1 e2
  refine s_split (fun e33_28 => ?_) (fun e33_28 => ?_)
  · refine s_tsin (tgt := 1028) 28 X dL_law_33 e33_28 (inI_c 28 rfl) (by decide) (by decide) rfl (by decide) ?_
    exact z_L_c28 hR9 X hX hb hL k18 hk18 l1 l2 l3 h3 p3 cells slots e1 e2
  refine s_tsout (tgt := 1051) X dL_law_33 (iandZ_in _ _) (by omega) (by decide) ?_
  refine s_iincK (j := 3) (y := w32 (l3 + 6)) (pc2 := 1054) X dL_law_1051 rfl (by decide) rfl rfl rfl rfl cat1_R ?_
  refine s_goto (pc2 := 18) X dL_law_1054 (by decide) ?_
  refine s_sub (lv2 := [(0, .ref b), (1, vR C.1.1 l1), (2, vR C.1.1 l2), (3, vI (w32 (l3 + 6)))]) [1, 2, 3, 0] rfl ?_
  exact hk18 l1 l2 _ (w32_in _) _ _ (by omega) (by omega)
theorem z_L_18 {C : hCx} (hR9 : C.2.2.2.2.1 = room_1) (X : hOK C cL_law RL 4 (some .boolean)) {b L : Nat} {xs : Nat → Int32} (hX : va_X b L xs C.2.2.2.2.2.1 C.1.2.1) (hb : b ≤ C.1.1) (hL : L ≤ 3072) : ∀ (n : Nat) (l1 l2 : Nat) (l3 : Int), inI l3 → ∀ (cells slots : Nat), (cells : Int) ≤ 300 + 3 * l3 → (slots : Int) ≤ 17000 + 35 * l3 → hSim C (some .boolean) 600000 7302250 4 18 [(0, .ref b), (1, vR C.1.1 l1), (2, vR C.1.1 l2), (3, vI l3)] [] cells slots (m_L_18 L xs n l1 l2 l3) := by
  intro n
  induction n with
  | zero => intros; exact s_none (fun _ => rfl)
  | succ n ih =>
    intro l1 l2 l3 h3 cells slots e1 e2
    exact z_L_sw hR9 X hX hb hL (m_L_18 L xs n) ih l1 l2 l3 h3 cells slots e1 e2
def m_L (L : Nat) (xs : Nat → Int32) : hM :=
  hnew 9 fun v1 =>
  hassert (0 < v1) <|
  hcall (m_X9_init v1) fun _ =>
  hnew 10 fun v2 =>
  hassert (0 < v2) <|
  hcall (m_X10_init v2) fun _ =>
  m_L_18 L xs 1000000000 v1 v2 0
theorem z_L {C : hCx} (hR9 : C.2.2.2.2.1 = room_1) (X : hOK C cL_law RL 4 (some .boolean)) {b L : Nat} {xs : Nat → Int32} (hX : va_X b L xs C.2.2.2.2.2.1 C.1.2.1) (hb : b ≤ C.1.1) (hL : L ≤ 3072) : hSim C (some .boolean) 600000 7302250 4 0 [(0, .ref b)] [] 0 0 (m_L L xs) := by
  have hc1 : C.2.2.2.2.1.cells = 600000 := by rw [hR9]; rfl
  have hc2 : C.2.2.2.2.1.slots = 7302250 := by rw [hR9]; rfl
  have hf : 60 + 1 ≤ C.2.2.2.2.1.frames := by rw [hR9]; exact Nat.le_of_ble_eq_true rfl
  have hlo : 50 * 60 + 50 ≤ C.2.2.2.2.1.locals := by rw [hR9]; exact Nat.le_of_ble_eq_true rfl
  unfold m_L
  refine s_new (pc2 := 3) X dL_law_0 rfl kX9 cl_RL_7 kdX9 (by rw [hc1]; exact Nat.le_of_ble_eq_true rfl) (by rw [hc2]; exact Nat.le_of_ble_eq_true rfl) (fun v1 => ?_)
  refine s_cs 1 18 rfl rfl ?_
  refine s_assert (fun p1 => ?_)
  refine s_dup (pc2 := 4) X dL_law_3 rfl (vR_cat _ _) ?_
  refine s_callI (pc2 := 7) (d2 := 60) (mc2 := 218) (ms2 := 9300) (As := []) (st := [vR C.1.1 v1]) X dL_law_4 rfl ml_RL_9 im_X9_init rfl (c_X9_init 60 (by decide) C.1 C.2.2.1 v1 p1) hy_X9_init rfl rfl p1 hf hlo (st_room (Nat.le_of_ble_eq_true rfl)) ⟨by rw [hc1]; exact Nat.le_of_ble_eq_true rfl, by rw [hc2]; exact Nat.le_of_ble_eq_true rfl⟩ (fun _ => ?_)
  refine s_cs 219 9318 rfl rfl ?_
  refine s_astore_n (pc2 := 8) X dL_law_7 rfl (by decide) rfl rfl cat1_S ?_
  refine s_new (pc2 := 11) X dL_law_8 rfl kX10 cl_RL_10 kdX10 (by rw [hc1]; exact Nat.le_of_ble_eq_true rfl) (by rw [hc2]; exact Nat.le_of_ble_eq_true rfl) (fun v2 => ?_)
  refine s_cs 220 9361 rfl rfl ?_
  refine s_assert (fun p2 => ?_)
  refine s_dup (pc2 := 12) X dL_law_11 rfl (vR_cat _ _) ?_
  refine s_callI (pc2 := 15) (d2 := 60) (mc2 := 22) (ms2 := 6635) (As := []) (st := [vR C.1.1 v2]) X dL_law_12 rfl ml_RL_12 im_X10_init rfl (c_X10_init 60 (by decide) C.1 C.2.2.1 v2 p2) hy_X10_init rfl rfl p2 hf hlo (st_room (Nat.le_of_ble_eq_true rfl)) ⟨by rw [hc1]; exact Nat.le_of_ble_eq_true rfl, by rw [hc2]; exact Nat.le_of_ble_eq_true rfl⟩ (fun _ => ?_)
  refine s_cs 242 15996 rfl rfl ?_
  refine s_astore_n (pc2 := 16) X dL_law_15 rfl (by decide) rfl rfl cat1_R ?_
  refine s_iconst (n := 0) (pc2 := 17) X dL_law_16 rfl ?_
  refine s_istoreK_n (pc2 := 18) X dL_law_17 rfl (by decide) rfl rfl cat1_R ?_
  refine s_sub (lv2 := [(0, .ref b), (1, vR C.1.1 v1), (2, vR C.1.1 v2), (3, vI 0)]) [3, 2, 1, 0] rfl ?_
  exact z_L_18 hR9 X hX hb hL 1000000000 v1 v2 0 (inI_c 0 rfl) 242 15996 (by decide) (by decide)
