theorem s_cs {C : hCx} {nL : Nat} {ret : Option FieldType} {mc ms pc : Nat} {lv : List (Nat × Value)} {st : List Value} {cells slots : Nat} {P : hM} (cells2 slots2 : Nat) (e1 : cells = cells2) (e2 : slots = slots2) (k : hSim C ret mc ms nL pc lv st cells2 slots2 P) : hSim C ret mc ms nL pc lv st cells slots P := by
  subst e1
  subst e2
  exact k
theorem hMet.ofF {G : hG} {l : Launch} {y : MethodName} {cc : ByteArray} {maxL : Nat} {ret : Option FieldType} {d mc ms : Nat} {av : List Value} {P : hM} {lv : List (Nat × Value)} (hy : plainFor y = true) (hav : (lg_sl av).length ≤ maxL) (hlv : lv_args 0 av = lv)
    (h : ∀ C : hCx, hCtx G l d mc ms y.name C → hOK C cc y.cls maxL ret → hSim C ret mc ms maxL 0 lv [] 0 0 P) : hMet G l y cc maxL ret d mc ms av P := by
  intro u r u2 hP
  refine va_MetF (cc := cc) (maxL := maxL) (ret := ret) hy rfl ?_
  intro p e s m args below meth c s₁ B hml hv
  obtain ⟨rfl, hT0, hR0⟩ := hv
  have hts := atoms_spec (ws := Cond.code y cc maxL ret :: tG) B.pre
  have hown : s.vm.findClass y.cls = some m.cls := findClass_of_methodNamed B.named
  have hin : meth.name = y.name := (name_of_methodNamed B.named B.method).1
  have hl := lv_entry av (n := maxL) hav
  rw [lg_entry_eq]
  generalize (lg_sl av ++ List.replicate (maxL - (lg_sl av).length) Slot.unset).toArray = ls at hl ⊢
  rw [hlv] at hl
  exact h (G, p, l, e, hRm d mc ms, s, m, av.toArray, below, meth, c) ⟨rfl, rfl, rfl, hin⟩ ⟨B.exec, B.bytes, hml, hown, fun w hw => hts w (List.mem_cons_of_mem _ hw), hT0, B.returns, B.notSynchronized⟩ u r u2 s.heap [] ls hP hR0 (fun q hq => absurd hq List.not_mem_nil) hl
/-! Strings: a static whose value nobody looks at; static calls that answer a char; the index checks -/
theorem fjq_1053 : Cond.fieldLink RJ0 1053 "jdk/internal/util/Preconditions" "SIOOBE_FORMATTER" "Ljava/util/function/BiFunction;" ∈ tG := tG_in tb_3 15 (by decide +kernel) rfl
theorem s_getsQ {C : hCx} {cc : ByteArray} {own : String} {nL : Nat} {ret : Option FieldType} {mc ms pc pc2 : Nat} {lv : List (Nat × Value)} {st : List Value} {cells slots idx : Nat} {P : hM} (X : hOK C cc own nL ret) (hd : decode cc pc = .ok (.getstatic idx, 3)) (hp : pc + 3 = pc2) (hl : Cond.fieldLink own idx "jdk/internal/util/Preconditions" "SIOOBE_FORMATTER" "Ljava/util/function/BiFunction;" ∈ tG) (k : ∀ q : Value, q.category = 1 → hSim C ret mc ms nL pc2 lv (q :: st) cells slots P) : hSim C ret mc ms nL pc lv st cells slots P := by
  subst hp
  obtain ⟨G, p, l, e, R, s, m, args, below, meth, c⟩ := C
  intro u r u1 H locs ls h1 h2 h3 h4
  have x6 := X.2.2.2.2.2.1
  have key : ∀ v : Value, v.category = 1 → va_Z "jdk/internal/util/Preconditions" "SIOOBE_FORMATTER" "Ljava/util/function/BiFunction;" v (hA G) s G.2.1 → W p l e R s m args below meth c H locs cells slots (hMQ (G, p, l, e, R, s, m, args, below, meth, c) ret mc ms r u1) (F0 m pc ls st) := by
    intro v hv hz
    obtain ⟨cf, kf, fi, f, a, cell, q1, q2, q3, q4, q5, q6, q7, q8⟩ := hz.kept (hbase h2 x6)
    exact W.gets X.1 X.2.1 X.2.2.2.1 (X.2.2.2.2.1 _ hl) q1 q2 q3 q4 q5 (fun e => by rw [e] at q6; cases q6) q7 rfl hd (k v hv u r u1 H locs ls h1 h2 h3 h4)
  rcases x6.2.2.2.1.2.2.2 with z | ⟨t, z⟩
  · exact key .null rfl z
  · exact key (.ref t) rfl z
theorem s_callSC {C : hCx} {cc cc2 : ByteArray} {own : String} {nL : Nat} {ret : Option FieldType} {mc ms pc pc2 : Nat} {lv : List (Nat × Value)} {st stk : List Value} {cells slots : Nat} {idx n maxL2 d2 : Nat} {y : MethodName} {As : List Value} {g : hM} {f : Int → hM} (X : hOK C cc own nL ret) (hd : decode cc pc = .ok (.invokestatic idx, 3)) (hp : pc + 3 = pc2) (hl : Cond.methodLink own idx y ∈ tG) (hi : Cond.static y ∈ tG) (hM : hMet C.1 C.2.2.1 y cc2 maxL2 (some .char) d2 0 0 As g) (hY2 : hY y cc2 maxL2 (some .char) n) (hn : As.length = n) (hs : stk = As.reverse ++ st) (hf : d2 + 1 ≤ C.2.2.2.2.1.frames) (hlo : 50 * d2 + 50 ≤ C.2.2.2.2.1.locals) (hst : (st.map fun v => v.category).sum ≤ 8) (hcs : cells ≤ C.2.2.2.2.1.cells ∧ slots ≤ C.2.2.2.2.1.slots) (k : ∀ v, inI v → hSim C ret mc ms nL pc2 lv (vI v :: st) cells slots (f v)) : hSim C ret mc ms nL pc lv stk cells slots (hcall g f) := by
  subst hp
  subst hs
  obtain ⟨G, p, l, e, R, s, m, args, below, meth, c⟩ := C
  intro u r u1 H locs ls h1 h2 h3 h4
  cases hg : g u with
  | none => rw [show hcall g f u = none by unfold hcall; rw [hg]] at h1; cases h1
  | some w =>
    obtain ⟨r2, u2⟩ := w
    rw [show hcall g f u = f r2 u2 by unfold hcall; rw [hg]] at h1
    have cb := hg_cb (mc2 := 0) (ms2 := 0) X hY2 hl hf hlo
    have x5 := X.2.2.2.2.1
    have x6 := X.2.2.2.2.2.1
    have hMM := hM u r2 u2 hg
    have hr := va_runS (rest := st) (As := As) (g := F0 m pc ls (As.reverse ++ st)) (locs := locs) (cells := cells) (slots := slots) (e := e) (below := below) (meth := meth) (H := H) ⟨X.1, X.2.1, X.2.2.1, X.2.2.2.1, x5⟩ hMM ⟨cb, x5 _ hi⟩ ⟨hPc_blind, fun U hU hW => ⟨rfl, hT.warm hW x6, by rw [hU]; exact h2⟩⟩ rfl hn h4.1 rfl (lv_room hst) hd ⟨hcs.1, hcs.2⟩
    exact hg_run hr h3 (fun H2 locs2 z r2 r3 => k _ ⟨by have := z.1; omega, by have := z.2; omega⟩ _ r u1 H2 locs2 ls h1 r2 r3 h4)
/-! loops that are run out: stores and branches of known numbers -/
theorem s_istoreK_n {C : hCx} {cc : ByteArray} {own : String} {nL : Nat} {ret : Option FieldType} {mc ms pc pc2 : Nat} {lv : List (Nat × Value)} {st : List Value} {cells slots : Nat} {k0 : Fin 4} {x : Int} {P : hM} {lv1 l1 : List (Nat × Value)} (X : hOK C cc own nL ret) (hd : decode cc pc = .ok (.istore_n k0, 1)) (hp : pc + 1 = pc2) (hn : k0.val < nL) (hl : lv.filter (fun q => !(q.1 == k0.val)) = lv1) (hf : lv.filter (fun q => q.1 + 1 == k0.val) = l1) (hc : ∀ q ∈ l1, q.2.category = 1) (k : hSim C ret mc ms nL pc2 ((k0.val, vI x) :: lv1) st cells slots P) : hSim C ret mc ms nL pc lv (vI x :: st) cells slots P := by
  subst hp
  obtain ⟨G, p, l, e, R, s, m, args, below, meth, c⟩ := C
  intro u r u1 H locs ls h1 h2 h3 h4
  refine lv_istore_n (lv' := (k0.val, vI x) :: lv.filter (fun q => !(q.1 == k0.val) && !(q.1 + 1 == k0.val && q.2.category == 2))) X.1 X.2.1 hd rfl h4 hn rfl (fun ls2 h5 => ?_)
  exact k u r u1 H locs ls2 h1 h2 h3 (lv_fewer h5 (lv_put1 h4 hn rfl hl hf hc))
theorem s_iincK {C : hCx} {cc : ByteArray} {own : String} {nL : Nat} {ret : Option FieldType} {mc ms pc pc2 : Nat} {lv : List (Nat × Value)} {st : List Value} {cells slots : Nat} {i j : Nat} {n x y : Int} {P : hM} {lv1 l1 : List (Nat × Value)} (X : hOK C cc own nL ret) (hd : decode cc pc = .ok (.iinc i n, 3)) (hp : pc + 3 = pc2) (hn : i < nL) (hy : w32 (x + n) = y) (hj : lv[j]? = some (i, vI x)) (hl : lv.filter (fun q => !(q.1 == i)) = lv1) (hf : lv.filter (fun q => q.1 + 1 == i) = l1) (hc : ∀ q ∈ l1, q.2.category = 1) (k : hSim C ret mc ms nL pc2 ((i, vI y) :: lv1) st cells slots P) : hSim C ret mc ms nL pc lv st cells slots P := by
  subst hp
  subst hy
  obtain ⟨G, p, l, e, R, s, m, args, below, meth, c⟩ := C
  intro u r u1 H locs ls h1 h2 h3 h4
  refine lv_iinc (v := Int32.ofInt (w32 (x + n))) (lv' := (i, vI (w32 (x + n))) :: lv.filter (fun q => !(q.1 == i) && !(q.1 + 1 == i && q.2.category == 2))) X.1 X.2.1 hd h4 hj (by rw [of_w32, Int32.ofInt_add]) hn rfl (fun ls2 h5 => ?_)
  exact k u r u1 H locs ls2 h1 h2 h3 (lv_fewer h5 (lv_put1 h4 hn rfl hl hf hc))
theorem s_icgeT {C : hCx} {cc : ByteArray} {own : String} {nL : Nat} {ret : Option FieldType} {mc ms pc tgt : Nat} {lv : List (Nat × Value)} {st : List Value} {cells slots : Nat} {P : hM} (X : hOK C cc own nL ret) {off : Int} {x y : Int} (hd : decode cc pc = .ok (.if_icmp .ge off, 3)) (ht : (pc : Int) + off = (tgt : Int)) (hx : inI x) (hy : inI y) (hc : x ≥ y) (k : hSim C ret mc ms nL tgt lv st cells slots P) : hSim C ret mc ms nL pc lv (vI y :: vI x :: st) cells slots P := by
  have e : hif (x ≥ y) P hfail = P := funext fun u => if_pos hc
  rw [← e]
  exact s_icge (pc2 := pc + 3) X hd ht rfl hx hy k (s_none fun _ => rfl)
theorem s_icgeF {C : hCx} {cc : ByteArray} {own : String} {nL : Nat} {ret : Option FieldType} {mc ms pc pc2 tgt : Nat} {lv : List (Nat × Value)} {st : List Value} {cells slots : Nat} {P : hM} (X : hOK C cc own nL ret) {off : Int} {x y : Int} (hd : decode cc pc = .ok (.if_icmp .ge off, 3)) (ht : (pc : Int) + off = (tgt : Int)) (hp : pc + 3 = pc2) (hx : inI x) (hy : inI y) (hc : ¬ x ≥ y) (k : hSim C ret mc ms nL pc2 lv st cells slots P) : hSim C ret mc ms nL pc lv (vI y :: vI x :: st) cells slots P := by
  have e : hif (x ≥ y) hfail P = P := funext fun u => if_neg hc
  rw [← e]
  exact s_icge X hd ht hp hx hy (s_none fun _ => rfl) k
def m_J3_checkIndex_8e157 (l0 l1 : Int) : hM := hif (l0 < 0) hfail (hif (l0 < l1) (hret l0) hfail)
theorem c_J3_checkIndex_8e157 (d : Nat) (hd : 1 ≤ d) (G : hG) (l : Launch) (l0 l1 : Int) (q : Value) (h0 : inI l0) (h1 : inI l1) (hq : q.category = 1) : hMet G l yJ3_checkIndex_8e157 cJ3_checkIndex_8e157 3 (some .int) d 0 0 [vI l0, vI l1, q] (m_J3_checkIndex_8e157 l0 l1) := by
  refine hMet.of (lv := [(0, vI l0), (1, vI l1), (2, q)]) (by decide) (by simp [lg_sl, vI_cat, hq]) (by simp [lv_args, vI_cat, hq]) (fun C K X => ?_)
  obtain ⟨rfl, rfl, K⟩ := K
  unfold m_J3_checkIndex_8e157
  refine s_iload_n (j := 0) (pc2 := 1) X dJ3_checkIndex_8e157_0 rfl rfl ?_
  refine s_iflt (tgt := 9) (pc2 := 4) X dJ3_checkIndex_8e157_1 (by decide) rfl h0 (s_none fun _ => rfl) ?_
  refine s_iload_n (j := 0) (pc2 := 5) X dJ3_checkIndex_8e157_4 rfl rfl ?_
  refine s_iload_n (j := 1) (pc2 := 6) X dJ3_checkIndex_8e157_5 rfl rfl ?_
  refine s_iclt (tgt := 16) (pc2 := 9) X dJ3_checkIndex_8e157_6 (by decide) rfl h0 h1 ?_ (s_none fun _ => rfl)
  refine s_iload_n (j := 0) (pc2 := 17) X dJ3_checkIndex_8e157_16 rfl rfl ?_
  exact s_iret X dJ3_checkIndex_8e157_17 h0
def m_J0_checkIndex_df160 (l0 l1 : Int) : hM := hcall (m_J3_checkIndex_8e157 l0 l1) fun _ => hret 0
theorem c_J0_checkIndex_df160 (d : Nat) (hd : 2 ≤ d) (G : hG) (l : Launch) (l0 l1 : Int) (h0 : inI l0) (h1 : inI l1) : hMet G l yJ0_checkIndex_df160 cJ0_checkIndex_df160 2 none d 0 0 [vI l0, vI l1] (m_J0_checkIndex_df160 l0 l1) := by
  refine hMet.of (lv := [(0, vI l0), (1, vI l1)]) (by decide) (by simp [lg_sl, vI_cat]) (by simp [lv_args, vI_cat]) (fun C K X => ?_)
  obtain ⟨rfl, rfl, K⟩ := K
  obtain ⟨⟨hf, hlo⟩, ⟨hc1, hc2⟩, hf1, hl1⟩ := K_room (G := C.1) (l := C.2.2.1) ⟨rfl, rfl, K⟩ (by omega)
  unfold m_J0_checkIndex_df160
  refine s_iload_n (j := 0) (pc2 := 1) X dJ0_checkIndex_df160_0 rfl rfl ?_
  refine s_iload_n (j := 1) (pc2 := 2) X dJ0_checkIndex_df160_1 rfl rfl ?_
  refine s_getsQ (pc2 := 5) X dJ0_checkIndex_df160_2 rfl fjq_1053 (fun q hq => ?_)
  refine s_callSI (pc2 := 8) (d2 := d - 1) (As := [vI l0, vI l1, q]) (st := []) X dJ0_checkIndex_df160_5 rfl ml_RJ0_1059 sm_J3_checkIndex_8e157 (c_J3_checkIndex_8e157 (d - 1) (by omega) C.1 C.2.2.1 l0 l1 q h0 h1 hq) hy_J3_checkIndex_8e157 rfl rfl hf hlo (st_room (Nat.le_of_ble_eq_true rfl)) ⟨Nat.zero_le _, Nat.zero_le _⟩ (fun v hv => ?_)
  refine s_pop (pc2 := 9) X dJ0_checkIndex_df160_8 rfl rfl ?_
  exact s_ret X dJ0_checkIndex_df160_9
def m_J6_bitCount_0f7a4 (l0 : Int) : hM :=
  hlet ((w32 (l0 - ((iandZ ((iushrZ l0 1)) 1431655765))))) fun (w1 : Int) =>
  hlet ((w32 (((iandZ w1 858993459)) + ((iandZ ((iushrZ w1 2)) 858993459))))) fun (w2 : Int) =>
  hlet ((iandZ ((w32 (w2 + ((iushrZ w2 4))))) 252645135)) fun (w3 : Int) =>
  hlet ((w32 (w3 + ((iushrZ w3 8))))) fun (w4 : Int) =>
  hlet ((w32 (w4 + ((iushrZ w4 16))))) fun (w5 : Int) =>
  hret ((iandZ w5 63))
set_option maxRecDepth 4000 in
set_option maxHeartbeats 20000000 in
theorem z_J6_bitCount_0f7a4 (d : Nat) (hd : 1 ≤ d) {C : hCx} (K : hCtx C.1 C.2.2.1 d 0 0 "bitCount" C) (X : hOK C cJ6_bitCount_0f7a4 RJ6 1 (some .int)) (l0 : Int) (h0 : inI l0) : hSim C (some .int) 0 0 1 0 [(0, vI l0)] [] 0 0 (m_J6_bitCount_0f7a4 l0) := by
  obtain ⟨⟨hf, hlo⟩, ⟨hc1, hc2⟩, hf1, hl1⟩ := K_room K (by omega)
  have hcs : 0 ≤ C.2.2.2.2.1.cells ∧ 0 ≤ C.2.2.2.2.1.slots := ⟨Nat.zero_le _, Nat.zero_le _⟩
  unfold m_J6_bitCount_0f7a4
  refine s_iload_n (j := 0) (pc2 := 1) X dJ6_bitCount_0f7a4_0 rfl rfl ?_
  refine s_iload_n (j := 0) (pc2 := 2) X dJ6_bitCount_0f7a4_1 rfl rfl ?_
  refine s_iconst (n := 1) (pc2 := 3) X dJ6_bitCount_0f7a4_2 rfl ?_
  refine s_iushr (pc2 := 4) X dJ6_bitCount_0f7a4_3 rfl ?_
  refine s_ldcw (z := 1431655765) (pc2 := 7) X dJ6_bitCount_0f7a4_4 rfl kc_RJ6_265 ?_
  refine s_iand (pc2 := 8) X dJ6_bitCount_0f7a4_7 rfl ?_
  refine s_isub (pc2 := 9) X dJ6_bitCount_0f7a4_8 rfl ?_
  refine s_istore_n (pc2 := 10) X dJ6_bitCount_0f7a4_9 rfl (by decide) rfl rfl cat1_N (w32_in _) (fun w1 hw1 => ?_)
  refine s_iload_n (j := 0) (pc2 := 11) X dJ6_bitCount_0f7a4_10 rfl rfl ?_
  refine s_ldcw (z := 858993459) (pc2 := 14) X dJ6_bitCount_0f7a4_11 rfl kc_RJ6_266 ?_
  refine s_iand (pc2 := 15) X dJ6_bitCount_0f7a4_14 rfl ?_
  refine s_iload_n (j := 0) (pc2 := 16) X dJ6_bitCount_0f7a4_15 rfl rfl ?_
  refine s_iconst (n := 2) (pc2 := 17) X dJ6_bitCount_0f7a4_16 rfl ?_
  refine s_iushr (pc2 := 18) X dJ6_bitCount_0f7a4_17 rfl ?_
  refine s_ldcw (z := 858993459) (pc2 := 21) X dJ6_bitCount_0f7a4_18 rfl kc_RJ6_266 ?_
  refine s_iand (pc2 := 22) X dJ6_bitCount_0f7a4_21 rfl ?_
  refine s_iadd (pc2 := 23) X dJ6_bitCount_0f7a4_22 rfl ?_
  refine s_istore_n (pc2 := 24) X dJ6_bitCount_0f7a4_23 rfl (by decide) rfl rfl cat1_N (w32_in _) (fun w2 hw2 => ?_)
  refine s_iload_n (j := 0) (pc2 := 25) X dJ6_bitCount_0f7a4_24 rfl rfl ?_
  refine s_iload_n (j := 0) (pc2 := 26) X dJ6_bitCount_0f7a4_25 rfl rfl ?_
  refine s_iconst (n := 4) (pc2 := 27) X dJ6_bitCount_0f7a4_26 rfl ?_
  refine s_iushr (pc2 := 28) X dJ6_bitCount_0f7a4_27 rfl ?_
  refine s_iadd (pc2 := 29) X dJ6_bitCount_0f7a4_28 rfl ?_
  refine s_ldcw (z := 252645135) (pc2 := 32) X dJ6_bitCount_0f7a4_29 rfl kc_RJ6_267 ?_
  refine s_iand (pc2 := 33) X dJ6_bitCount_0f7a4_32 rfl ?_
  refine s_istore_n (pc2 := 34) X dJ6_bitCount_0f7a4_33 rfl (by decide) rfl rfl cat1_N (iandZ_in _ _) (fun w3 hw3 => ?_)
  refine s_iload_n (j := 0) (pc2 := 35) X dJ6_bitCount_0f7a4_34 rfl rfl ?_
  refine s_iload_n (j := 0) (pc2 := 36) X dJ6_bitCount_0f7a4_35 rfl rfl ?_
  refine s_bipush (n := 8) (pc2 := 38) X dJ6_bitCount_0f7a4_36 rfl rfl ?_
  refine s_iushr (pc2 := 39) X dJ6_bitCount_0f7a4_38 rfl ?_
  refine s_iadd (pc2 := 40) X dJ6_bitCount_0f7a4_39 rfl ?_
  refine s_istore_n (pc2 := 41) X dJ6_bitCount_0f7a4_40 rfl (by decide) rfl rfl cat1_N (w32_in _) (fun w4 hw4 => ?_)
  refine s_iload_n (j := 0) (pc2 := 42) X dJ6_bitCount_0f7a4_41 rfl rfl ?_
  refine s_iload_n (j := 0) (pc2 := 43) X dJ6_bitCount_0f7a4_42 rfl rfl ?_
  refine s_bipush (n := 16) (pc2 := 45) X dJ6_bitCount_0f7a4_43 rfl rfl ?_
  refine s_iushr (pc2 := 46) X dJ6_bitCount_0f7a4_45 rfl ?_
  refine s_iadd (pc2 := 47) X dJ6_bitCount_0f7a4_46 rfl ?_
  refine s_istore_n (pc2 := 48) X dJ6_bitCount_0f7a4_47 rfl (by decide) rfl rfl cat1_N (w32_in _) (fun w5 hw5 => ?_)
  refine s_iload_n (j := 0) (pc2 := 49) X dJ6_bitCount_0f7a4_48 rfl rfl ?_
  refine s_bipush (n := 63) (pc2 := 51) X dJ6_bitCount_0f7a4_49 rfl rfl ?_
  refine s_iand (pc2 := 52) X dJ6_bitCount_0f7a4_51 rfl ?_
  exact s_iret X dJ6_bitCount_0f7a4_52 (iandZ_in _ _)
theorem c_J6_bitCount_0f7a4 (d : Nat) (hd : 1 ≤ d) (G : hG) (l : Launch) (l0 : Int) (h0 : inI l0) : hMet G l yJ6_bitCount_0f7a4 cJ6_bitCount_0f7a4 1 (some .int) d 0 0 [vI l0] (m_J6_bitCount_0f7a4 l0) := by
  refine hMet.of (lv := [(0, vI l0)]) (by decide +kernel) (by simp [lg_sl, vR_cat, vI_cat, vL_cat, vS_cat2, vT_cat2]) (by simp [lv_args, vR_cat, vI_cat, vL_cat, vS_cat2, vT_cat2]) (fun C K X => ?_)
  obtain ⟨rfl, rfl, K⟩ := K
  exact z_J6_bitCount_0f7a4 d hd ⟨rfl, rfl, K⟩ X l0 h0
def m_J9_max_7cf53_L10 (s0 : Int) : hM :=
  hret s0
def m_J9_max_7cf53 (l0 : Int) (l1 : Int) : hM :=
  hif (l0 < l1) (
m_J9_max_7cf53_L10 l1) (
m_J9_max_7cf53_L10 l0)
set_option maxRecDepth 4000 in
theorem z_J9_max_7cf53_L10 (d : Nat) (hd : 1 ≤ d) {C : hCx} (K : hCtx C.1 C.2.2.1 d 0 0 "max" C) (X : hOK C cJ9_max_7cf53 RJ9 2 (some .int)) (s0 : Int) (g0 : inI s0) : hSim C (some .int) 0 0 2 10 [] [vI s0] 0 0 (m_J9_max_7cf53_L10 s0) := by
  obtain ⟨⟨hf, hlo⟩, ⟨hc1, hc2⟩, hf1, hl1⟩ := K_room K (by omega)
  have hcs : 0 ≤ C.2.2.2.2.1.cells ∧ 0 ≤ C.2.2.2.2.1.slots := ⟨Nat.zero_le _, Nat.zero_le _⟩
  unfold m_J9_max_7cf53_L10
  exact s_iret X dJ9_max_7cf53_10 g0
set_option maxRecDepth 4000 in
set_option maxHeartbeats 20000000 in
theorem z_J9_max_7cf53 (d : Nat) (hd : 1 ≤ d) {C : hCx} (K : hCtx C.1 C.2.2.1 d 0 0 "max" C) (X : hOK C cJ9_max_7cf53 RJ9 2 (some .int)) (l0 : Int) (l1 : Int) (h0 : inI l0) (h1 : inI l1) : hSim C (some .int) 0 0 2 0 [(0, vI l0), (1, vI l1)] [] 0 0 (m_J9_max_7cf53 l0 l1) := by
  obtain ⟨⟨hf, hlo⟩, ⟨hc1, hc2⟩, hf1, hl1⟩ := K_room K (by omega)
  have hcs : 0 ≤ C.2.2.2.2.1.cells ∧ 0 ≤ C.2.2.2.2.1.slots := ⟨Nat.zero_le _, Nat.zero_le _⟩
  unfold m_J9_max_7cf53
  refine s_iload_n (j := 0) (pc2 := 1) X dJ9_max_7cf53_0 rfl rfl ?_
  refine s_iload_n (j := 1) (pc2 := 2) X dJ9_max_7cf53_1 rfl rfl ?_
  refine s_iclt (tgt := 9) X dJ9_max_7cf53_2 (by decide) rfl h0 h1 ?_ ?_
  · refine s_iload_n (j := 1) (pc2 := 10) X dJ9_max_7cf53_9 rfl rfl ?_
    refine s_sub (lv2 := []) [] rfl ?_
    exact z_J9_max_7cf53_L10 d hd K X l1 h1
  · refine s_iload_n (j := 0) (pc2 := 6) X dJ9_max_7cf53_5 rfl rfl ?_
    refine s_goto (pc2 := 10) X dJ9_max_7cf53_6 (by decide) ?_
    refine s_sub (lv2 := []) [] rfl ?_
    exact z_J9_max_7cf53_L10 d hd K X l0 h0
theorem c_J9_max_7cf53 (d : Nat) (hd : 1 ≤ d) (G : hG) (l : Launch) (l0 : Int) (l1 : Int) (h0 : inI l0) (h1 : inI l1) : hMet G l yJ9_max_7cf53 cJ9_max_7cf53 2 (some .int) d 0 0 [vI l0, vI l1] (m_J9_max_7cf53 l0 l1) := by
  refine hMet.ofF (lv := [(0, vI l0), (1, vI l1)]) (by decide +kernel) (by simp [lg_sl, vR_cat, vI_cat, vL_cat, vS_cat2, vT_cat2]) (by simp [lv_args, vR_cat, vI_cat, vL_cat, vS_cat2, vT_cat2]) (fun C K X => ?_)
  obtain ⟨rfl, rfl, K⟩ := K
  exact z_J9_max_7cf53 d hd ⟨rfl, rfl, K⟩ X l0 l1 h0 h1
def m_J9_min_7cf53_L10 (s0 : Int) : hM :=
  hret s0
def m_J9_min_7cf53 (l0 : Int) (l1 : Int) : hM :=
  hif (l0 > l1) (
m_J9_min_7cf53_L10 l1) (
m_J9_min_7cf53_L10 l0)
set_option maxRecDepth 4000 in
theorem z_J9_min_7cf53_L10 (d : Nat) (hd : 1 ≤ d) {C : hCx} (K : hCtx C.1 C.2.2.1 d 0 0 "min" C) (X : hOK C cJ9_min_7cf53 RJ9 2 (some .int)) (s0 : Int) (g0 : inI s0) : hSim C (some .int) 0 0 2 10 [] [vI s0] 0 0 (m_J9_min_7cf53_L10 s0) := by
  obtain ⟨⟨hf, hlo⟩, ⟨hc1, hc2⟩, hf1, hl1⟩ := K_room K (by omega)
  have hcs : 0 ≤ C.2.2.2.2.1.cells ∧ 0 ≤ C.2.2.2.2.1.slots := ⟨Nat.zero_le _, Nat.zero_le _⟩
  unfold m_J9_min_7cf53_L10
  exact s_iret X dJ9_min_7cf53_10 g0
set_option maxRecDepth 4000 in
set_option maxHeartbeats 20000000 in
theorem z_J9_min_7cf53 (d : Nat) (hd : 1 ≤ d) {C : hCx} (K : hCtx C.1 C.2.2.1 d 0 0 "min" C) (X : hOK C cJ9_min_7cf53 RJ9 2 (some .int)) (l0 : Int) (l1 : Int) (h0 : inI l0) (h1 : inI l1) : hSim C (some .int) 0 0 2 0 [(0, vI l0), (1, vI l1)] [] 0 0 (m_J9_min_7cf53 l0 l1) := by
  obtain ⟨⟨hf, hlo⟩, ⟨hc1, hc2⟩, hf1, hl1⟩ := K_room K (by omega)
  have hcs : 0 ≤ C.2.2.2.2.1.cells ∧ 0 ≤ C.2.2.2.2.1.slots := ⟨Nat.zero_le _, Nat.zero_le _⟩
  unfold m_J9_min_7cf53
  refine s_iload_n (j := 0) (pc2 := 1) X dJ9_min_7cf53_0 rfl rfl ?_
  refine s_iload_n (j := 1) (pc2 := 2) X dJ9_min_7cf53_1 rfl rfl ?_
  refine s_icgt (tgt := 9) X dJ9_min_7cf53_2 (by decide) rfl h0 h1 ?_ ?_
  · refine s_iload_n (j := 1) (pc2 := 10) X dJ9_min_7cf53_9 rfl rfl ?_
    refine s_sub (lv2 := []) [] rfl ?_
    exact z_J9_min_7cf53_L10 d hd K X l1 h1
  · refine s_iload_n (j := 0) (pc2 := 6) X dJ9_min_7cf53_5 rfl rfl ?_
    refine s_goto (pc2 := 10) X dJ9_min_7cf53_6 (by decide) ?_
    refine s_sub (lv2 := []) [] rfl ?_
    exact z_J9_min_7cf53_L10 d hd K X l0 h0
theorem c_J9_min_7cf53 (d : Nat) (hd : 1 ≤ d) (G : hG) (l : Launch) (l0 : Int) (l1 : Int) (h0 : inI l0) (h1 : inI l1) : hMet G l yJ9_min_7cf53 cJ9_min_7cf53 2 (some .int) d 0 0 [vI l0, vI l1] (m_J9_min_7cf53 l0 l1) := by
  refine hMet.ofF (lv := [(0, vI l0), (1, vI l1)]) (by decide +kernel) (by simp [lg_sl, vR_cat, vI_cat, vL_cat, vS_cat2, vT_cat2]) (by simp [lv_args, vR_cat, vI_cat, vL_cat, vS_cat2, vT_cat2]) (fun C K X => ?_)
  obtain ⟨rfl, rfl, K⟩ := K
  exact z_J9_min_7cf53 d hd ⟨rfl, rfl, K⟩ X l0 l1 h0 h1
def m_J0_coder_7d493_L14 (s0 : Int) : hM :=
  hretB s0
def m_J0_coder_7d493 (l0 : Nat) : hM :=
  hif ((1 : Int) = 0) (
m_J0_coder_7d493_L14 1) (
hgd7 l0 <|
  m_J0_coder_7d493_L14 0)
set_option maxRecDepth 4000 in
theorem z_J0_coder_7d493_L14 (d : Nat) (hd : 1 ≤ d) {C : hCx} (K : hCtx C.1 C.2.2.1 d 0 0 "coder" C) (X : hOK C cJ0_coder_7d493 RJ0 1 (some .byte)) (s0 : Int) (g0 : inI s0) : hSim C (some .byte) 0 0 1 14 [] [vI s0] 0 0 (m_J0_coder_7d493_L14 s0) := by
  obtain ⟨⟨hf, hlo⟩, ⟨hc1, hc2⟩, hf1, hl1⟩ := K_room K (by omega)
  have hcs : 0 ≤ C.2.2.2.2.1.cells ∧ 0 ≤ C.2.2.2.2.1.slots := ⟨Nat.zero_le _, Nat.zero_le _⟩
  unfold m_J0_coder_7d493_L14
  exact s_bret X dJ0_coder_7d493_14
set_option maxRecDepth 4000 in
set_option maxHeartbeats 20000000 in
theorem z_J0_coder_7d493 (d : Nat) (hd : 1 ≤ d) {C : hCx} (K : hCtx C.1 C.2.2.1 d 0 0 "coder" C) (X : hOK C cJ0_coder_7d493 RJ0 1 (some .byte)) (l0 : Nat) : hSim C (some .byte) 0 0 1 0 [(0, vS C.1 l0)] [] 0 0 (m_J0_coder_7d493 l0) := by
  obtain ⟨⟨hf, hlo⟩, ⟨hc1, hc2⟩, hf1, hl1⟩ := K_room K (by omega)
  have hcs : 0 ≤ C.2.2.2.2.1.cells ∧ 0 ≤ C.2.2.2.2.1.slots := ⟨Nat.zero_le _, Nat.zero_le _⟩
  unfold m_J0_coder_7d493
  refine s_gets1 (pc2 := 3) X dJ0_coder_7d493_0 rfl fj_38 ?_
  refine s_ifeq (tgt := 13) X dJ0_coder_7d493_3 (by decide) rfl (inI_c 1 rfl) ?_ ?_
  · refine s_iconst (n := 1) (pc2 := 14) X dJ0_coder_7d493_13 rfl ?_
    refine s_sub (lv2 := []) [] rfl ?_
    exact z_J0_coder_7d493_L14 d hd K X 1 (inI_c 1 rfl)
  · refine s_sload_n2 (j := 0) (pc2 := 7) X dJ0_coder_7d493_6 rfl rfl ?_
    refine s_gcod (pc2 := 10) X dJ0_coder_7d493_7 rfl fj_15 ?_
    refine s_goto (pc2 := 14) X dJ0_coder_7d493_10 (by decide) ?_
    refine s_sub (lv2 := []) [] rfl ?_
    exact z_J0_coder_7d493_L14 d hd K X 0 (inI_c 0 rfl)
theorem c_J0_coder_7d493 (d : Nat) (hd : 1 ≤ d) (G : hG) (l : Launch) (l0 : Nat) : hMet G l yJ0_coder_7d493 cJ0_coder_7d493 1 (some .byte) d 0 0 [vS G l0] (m_J0_coder_7d493 l0) := by
  refine hMet.of (lv := [(0, vS G l0)]) (by decide +kernel) (by simp [lg_sl, vR_cat, vI_cat, vL_cat, vS_cat2, vT_cat2]) (by simp [lv_args, vR_cat, vI_cat, vL_cat, vS_cat2, vT_cat2]) (fun C K X => ?_)
  obtain ⟨rfl, rfl, K⟩ := K
  exact z_J0_coder_7d493 d hd ⟨rfl, rfl, K⟩ X l0
def m_J0_length_8abf5 (l0 : Nat) : hM :=
  hgd7 l0 <|
  hTlen l0 fun v1 =>
  hgd7 l0 <| hcall (m_J0_coder_7d493 l0) fun v2 =>
  hret ((ishrZ v1 v2))
set_option maxRecDepth 4000 in
set_option maxHeartbeats 20000000 in
theorem z_J0_length_8abf5 (d : Nat) (hd : 2 ≤ d) {C : hCx} (K : hCtx C.1 C.2.2.1 d 0 0 "length" C) (X : hOK C cJ0_length_8abf5 RJ0 1 (some .int)) (l0 : Nat) : hSim C (some .int) 0 0 1 0 [(0, vS C.1 l0)] [] 0 0 (m_J0_length_8abf5 l0) := by
  obtain ⟨⟨hf, hlo⟩, ⟨hc1, hc2⟩, hf1, hl1⟩ := K_room K (by omega)
  have hcs : 0 ≤ C.2.2.2.2.1.cells ∧ 0 ≤ C.2.2.2.2.1.slots := ⟨Nat.zero_le _, Nat.zero_le _⟩
  unfold m_J0_length_8abf5
  refine s_sload_n2 (j := 0) (pc2 := 1) X dJ0_length_8abf5_0 rfl rfl ?_
  refine s_gval (pc2 := 4) X dJ0_length_8abf5_1 rfl fj_9 ?_
  refine s_lenT (pc2 := 5) X dJ0_length_8abf5_4 rfl (fun v1 hv1 => ?_)
  refine s_sload_n2 (j := 0) (pc2 := 6) X dJ0_length_8abf5_5 rfl rfl ?_
  refine s_callTB (d2 := d - 1) (As := []) (st := [vI v1]) (pc2 := 9) X dJ0_length_8abf5_6 rfl ml_RJ0_335 im_J0_coder_7d493 se_J0_coder_7d493 rfl (c_J0_coder_7d493 (d - 1) (by omega) C.1 C.2.2.1 l0) hy_J0_coder_7d493 rfl rfl hf hlo (st_room (Nat.le_of_ble_eq_true rfl)) hcs (fun v2 hv2 => ?_)
  refine s_ishr (pc2 := 10) X dJ0_length_8abf5_9 rfl ?_
  exact s_iret X dJ0_length_8abf5_10 (ishrZ_in _ _)
theorem c_J0_length_8abf5 (d : Nat) (hd : 2 ≤ d) (G : hG) (l : Launch) (l0 : Nat) : hMet G l yJ0_length_8abf5 cJ0_length_8abf5 1 (some .int) d 0 0 [vS G l0] (m_J0_length_8abf5 l0) := by
  refine hMet.of (lv := [(0, vS G l0)]) (by decide +kernel) (by simp [lg_sl, vR_cat, vI_cat, vL_cat, vS_cat2, vT_cat2]) (by simp [lv_args, vR_cat, vI_cat, vL_cat, vS_cat2, vT_cat2]) (fun C K X => ?_)
  obtain ⟨rfl, rfl, K⟩ := K
  exact z_J0_length_8abf5 d hd ⟨rfl, rfl, K⟩ X l0
def m_J0_isLatin1_aae02_L18 (s0 : Int) : hM :=
  hretZ s0
def m_J0_isLatin1_aae02_L17 : hM :=
  m_J0_isLatin1_aae02_L18 0
def m_J0_isLatin1_aae02 (l0 : Nat) : hM :=
  hif ((1 : Int) = 0) (
m_J0_isLatin1_aae02_L17) (
hgd7 l0 <|
  hif ((0 : Int) ≠ 0) (
m_J0_isLatin1_aae02_L17) (
m_J0_isLatin1_aae02_L18 1))
set_option maxRecDepth 4000 in
theorem z_J0_isLatin1_aae02_L18 (d : Nat) (hd : 1 ≤ d) {C : hCx} (K : hCtx C.1 C.2.2.1 d 0 0 "isLatin1" C) (X : hOK C cJ0_isLatin1_aae02 RJ0 1 (some .boolean)) (s0 : Int) (g0 : inI s0) : hSim C (some .boolean) 0 0 1 18 [] [vI s0] 0 0 (m_J0_isLatin1_aae02_L18 s0) := by
  obtain ⟨⟨hf, hlo⟩, ⟨hc1, hc2⟩, hf1, hl1⟩ := K_room K (by omega)
  have hcs : 0 ≤ C.2.2.2.2.1.cells ∧ 0 ≤ C.2.2.2.2.1.slots := ⟨Nat.zero_le _, Nat.zero_le _⟩
  unfold m_J0_isLatin1_aae02_L18
  exact s_zret X dJ0_isLatin1_aae02_18
set_option maxRecDepth 4000 in
theorem z_J0_isLatin1_aae02_L17 (d : Nat) (hd : 1 ≤ d) {C : hCx} (K : hCtx C.1 C.2.2.1 d 0 0 "isLatin1" C) (X : hOK C cJ0_isLatin1_aae02 RJ0 1 (some .boolean)) : hSim C (some .boolean) 0 0 1 17 [] [] 0 0 (m_J0_isLatin1_aae02_L17) := by
  obtain ⟨⟨hf, hlo⟩, ⟨hc1, hc2⟩, hf1, hl1⟩ := K_room K (by omega)
  have hcs : 0 ≤ C.2.2.2.2.1.cells ∧ 0 ≤ C.2.2.2.2.1.slots := ⟨Nat.zero_le _, Nat.zero_le _⟩
  unfold m_J0_isLatin1_aae02_L17
  refine s_iconst (n := 0) (pc2 := 18) X dJ0_isLatin1_aae02_17 rfl ?_
  exact z_J0_isLatin1_aae02_L18 d hd K X 0 (inI_c 0 rfl)
set_option maxRecDepth 4000 in
set_option maxHeartbeats 20000000 in
theorem z_J0_isLatin1_aae02 (d : Nat) (hd : 1 ≤ d) {C : hCx} (K : hCtx C.1 C.2.2.1 d 0 0 "isLatin1" C) (X : hOK C cJ0_isLatin1_aae02 RJ0 1 (some .boolean)) (l0 : Nat) : hSim C (some .boolean) 0 0 1 0 [(0, vS C.1 l0)] [] 0 0 (m_J0_isLatin1_aae02 l0) := by
  obtain ⟨⟨hf, hlo⟩, ⟨hc1, hc2⟩, hf1, hl1⟩ := K_room K (by omega)
  have hcs : 0 ≤ C.2.2.2.2.1.cells ∧ 0 ≤ C.2.2.2.2.1.slots := ⟨Nat.zero_le _, Nat.zero_le _⟩
  unfold m_J0_isLatin1_aae02
  refine s_gets1 (pc2 := 3) X dJ0_isLatin1_aae02_0 rfl fj_38 ?_
  refine s_ifeq (tgt := 17) X dJ0_isLatin1_aae02_3 (by decide) rfl (inI_c 1 rfl) ?_ ?_
  · refine s_sub (lv2 := []) [] rfl ?_
    exact z_J0_isLatin1_aae02_L17 d hd K X
  · refine s_sload_n2 (j := 0) (pc2 := 7) X dJ0_isLatin1_aae02_6 rfl rfl ?_
    refine s_gcod (pc2 := 10) X dJ0_isLatin1_aae02_7 rfl fj_15 ?_
    refine s_ifne (tgt := 17) X dJ0_isLatin1_aae02_10 (by decide) rfl (inI_c 0 rfl) ?_ ?_
    · refine s_sub (lv2 := []) [] rfl ?_
      exact z_J0_isLatin1_aae02_L17 d hd K X
    · refine s_iconst (n := 1) (pc2 := 14) X dJ0_isLatin1_aae02_13 rfl ?_
      refine s_goto (pc2 := 18) X dJ0_isLatin1_aae02_14 (by decide) ?_
      refine s_sub (lv2 := []) [] rfl ?_
      exact z_J0_isLatin1_aae02_L18 d hd K X 1 (inI_c 1 rfl)
theorem c_J0_isLatin1_aae02 (d : Nat) (hd : 1 ≤ d) (G : hG) (l : Launch) (l0 : Nat) : hMet G l yJ0_isLatin1_aae02 cJ0_isLatin1_aae02 1 (some .boolean) d 0 0 [vS G l0] (m_J0_isLatin1_aae02 l0) := by
  refine hMet.of (lv := [(0, vS G l0)]) (by decide +kernel) (by simp [lg_sl, vR_cat, vI_cat, vL_cat, vS_cat2, vT_cat2]) (by simp [lv_args, vR_cat, vI_cat, vL_cat, vS_cat2, vT_cat2]) (fun C K X => ?_)
  obtain ⟨rfl, rfl, K⟩ := K
  exact z_J0_isLatin1_aae02 d hd ⟨rfl, rfl, K⟩ X l0
def m_J1_charAt_3b067 (l0 : Nat) (l1 : Int) : hM :=
  hTlen l0 fun v1 =>
  hcall (m_J0_checkIndex_df160 l1 v1) fun _ =>
  hTch l0 l1 fun v2 =>
  hretC ((i2cZ ((iandZ v2 255))))
set_option maxRecDepth 4000 in
set_option maxHeartbeats 20000000 in
theorem z_J1_charAt_3b067 (d : Nat) (hd : 3 ≤ d) {C : hCx} (K : hCtx C.1 C.2.2.1 d 0 0 "charAt" C) (X : hOK C cJ1_charAt_3b067 RJ1 2 (some .char)) (l0 : Nat) (l1 : Int) (h1 : inI l1) : hSim C (some .char) 0 0 2 0 [(0, vT C.1 l0), (1, vI l1)] [] 0 0 (m_J1_charAt_3b067 l0 l1) := by
  obtain ⟨⟨hf, hlo⟩, ⟨hc1, hc2⟩, hf1, hl1⟩ := K_room K (by omega)
  have hcs : 0 ≤ C.2.2.2.2.1.cells ∧ 0 ≤ C.2.2.2.2.1.slots := ⟨Nat.zero_le _, Nat.zero_le _⟩
  unfold m_J1_charAt_3b067
  refine s_iload_n (j := 1) (pc2 := 1) X dJ1_charAt_3b067_0 rfl rfl ?_
  refine s_tload_n2 (j := 0) (pc2 := 2) X dJ1_charAt_3b067_1 rfl rfl ?_
  refine s_lenT (pc2 := 3) X dJ1_charAt_3b067_2 rfl (fun v1 hv1 => ?_)
  refine s_callSV (d2 := d - 1) (As := [vI l1, vI v1]) (st := []) (pc2 := 6) X dJ1_charAt_3b067_3 rfl ml_RJ1_9 sm_J0_checkIndex_df160 (c_J0_checkIndex_df160 (d - 1) (by omega) C.1 C.2.2.1 l1 v1 h1 hv1) hy_J0_checkIndex_df160 rfl rfl hf hlo (st_room (Nat.le_of_ble_eq_true rfl)) hcs (fun _ => ?_)
  refine s_tload_n2 (j := 0) (pc2 := 7) X dJ1_charAt_3b067_6 rfl rfl ?_
  refine s_iload_n (j := 1) (pc2 := 8) X dJ1_charAt_3b067_7 rfl rfl ?_
  refine s_baldT (pc2 := 9) X dJ1_charAt_3b067_8 rfl (fun v2 hv2 => ?_)
  refine s_sipush (n := 255) (pc2 := 12) X dJ1_charAt_3b067_9 rfl rfl ?_
  refine s_iand (pc2 := 13) X dJ1_charAt_3b067_12 rfl ?_
  refine s_i2c (pc2 := 14) X dJ1_charAt_3b067_13 rfl ?_
  exact s_cret X dJ1_charAt_3b067_14
theorem c_J1_charAt_3b067 (d : Nat) (hd : 3 ≤ d) (G : hG) (l : Launch) (l0 : Nat) (l1 : Int) (h1 : inI l1) : hMet G l yJ1_charAt_3b067 cJ1_charAt_3b067 2 (some .char) d 0 0 [vT G l0, vI l1] (m_J1_charAt_3b067 l0 l1) := by
  refine hMet.of (lv := [(0, vT G l0), (1, vI l1)]) (by decide +kernel) (by simp [lg_sl, vR_cat, vI_cat, vL_cat, vS_cat2, vT_cat2]) (by simp [lv_args, vR_cat, vI_cat, vL_cat, vS_cat2, vT_cat2]) (fun C K X => ?_)
  obtain ⟨rfl, rfl, K⟩ := K
  exact z_J1_charAt_3b067 d hd ⟨rfl, rfl, K⟩ X l0 l1 h1
def m_J0_charAt_5068e (l0 : Nat) (l1 : Int) : hM :=
  hgd7 l0 <| hcall (m_J0_isLatin1_aae02 l0) fun v1 =>
  hif (v1 = 0) (
hfail) (
hgd7 l0 <|
  hcall (m_J1_charAt_3b067 l0 l1) fun v2 =>
  hretC v2)
set_option maxRecDepth 4000 in
set_option maxHeartbeats 20000000 in
theorem z_J0_charAt_5068e (d : Nat) (hd : 4 ≤ d) {C : hCx} (K : hCtx C.1 C.2.2.1 d 0 0 "charAt" C) (X : hOK C cJ0_charAt_5068e RJ0 2 (some .char)) (l0 : Nat) (l1 : Int) (h1 : inI l1) : hSim C (some .char) 0 0 2 0 [(0, vS C.1 l0), (1, vI l1)] [] 0 0 (m_J0_charAt_5068e l0 l1) := by
  obtain ⟨⟨hf, hlo⟩, ⟨hc1, hc2⟩, hf1, hl1⟩ := K_room K (by omega)
  have hcs : 0 ≤ C.2.2.2.2.1.cells ∧ 0 ≤ C.2.2.2.2.1.slots := ⟨Nat.zero_le _, Nat.zero_le _⟩
  unfold m_J0_charAt_5068e
  refine s_sload_n2 (j := 0) (pc2 := 1) X dJ0_charAt_5068e_0 rfl rfl ?_
  refine s_callTZ (d2 := d - 1) (As := []) (st := []) (pc2 := 4) X dJ0_charAt_5068e_1 rfl ml_RJ0_492 im_J0_isLatin1_aae02 se_J0_isLatin1_aae02 rfl (c_J0_isLatin1_aae02 (d - 1) (by omega) C.1 C.2.2.1 l0) hy_J0_isLatin1_aae02 rfl rfl hf hlo (st_room (Nat.le_of_ble_eq_true rfl)) hcs (fun v1 hv1 => ?_)
  refine s_ifeq (tgt := 16) X dJ0_charAt_5068e_4 (by decide) rfl hv1 ?_ ?_
  · exact s_none (fun _ => rfl)
  · refine s_sload_n2 (j := 0) (pc2 := 8) X dJ0_charAt_5068e_7 rfl rfl ?_
    refine s_gval (pc2 := 11) X dJ0_charAt_5068e_8 rfl fj_9 ?_
    refine s_iload_n (j := 1) (pc2 := 12) X dJ0_charAt_5068e_11 rfl rfl ?_
    refine s_callSC (d2 := d - 1) (As := [vT C.1 l0, vI l1]) (st := []) (pc2 := 15) X dJ0_charAt_5068e_12 rfl ml_RJ0_495 sm_J1_charAt_3b067 (c_J1_charAt_3b067 (d - 1) (by omega) C.1 C.2.2.1 l0 l1 h1) hy_J1_charAt_3b067 rfl rfl hf hlo (st_room (Nat.le_of_ble_eq_true rfl)) hcs (fun v2 hv2 => ?_)
    exact s_cret X dJ0_charAt_5068e_15
theorem c_J0_charAt_5068e (d : Nat) (hd : 4 ≤ d) (G : hG) (l : Launch) (l0 : Nat) (l1 : Int) (h1 : inI l1) : hMet G l yJ0_charAt_5068e cJ0_charAt_5068e 2 (some .char) d 0 0 [vS G l0, vI l1] (m_J0_charAt_5068e l0 l1) := by
  refine hMet.of (lv := [(0, vS G l0), (1, vI l1)]) (by decide +kernel) (by simp [lg_sl, vR_cat, vI_cat, vL_cat, vS_cat2, vT_cat2]) (by simp [lv_args, vR_cat, vI_cat, vL_cat, vS_cat2, vT_cat2]) (fun C K X => ?_)
  obtain ⟨rfl, rfl, K⟩ := K
  exact z_J0_charAt_5068e d hd ⟨rfl, rfl, K⟩ X l0 l1 h1
def m_J7_fill_53178_L5 : Nat → Nat → Int → Int → Int → hM
  | 0, _, _, _, _ => hfail
  | n + 1, l0, l1, l2, l3 =>
    hif (l2 ≥ l3) (
hret 0) (
hsI 20 l0 l2 l1 <|
  hlet (w32 (l2 + 1)) fun (w1 : Int) =>
  m_J7_fill_53178_L5 n l0 l1 w1 l3)
def m_J7_fill_53178 (l0 : Nat) (l1 : Int) : hM :=
  hlet (0 : Int) fun (w1 : Int) =>
  hlen 20 l0 fun v2 =>
  hlet v2 fun (w3 : Int) =>
  m_J7_fill_53178_L5 1000000000 l0 l1 w1 w3
set_option maxRecDepth 4000 in
theorem z_J7_fill_53178_L5 (d : Nat) (hd : 1 ≤ d) {C : hCx} (K : hCtx C.1 C.2.2.1 d 0 0 "fill" C) (X : hOK C cJ7_fill_53178 RJ7 4 none) : ∀ (n : Nat) (l0 : Nat) (l1 : Int) (l2 : Int) (l3 : Int) (h1 : inI l1) (h2 : inI l2) (h3 : inI l3), hSim C none 0 0 4 5 [(0, vR C.1.1 l0), (1, vI l1), (2, vI l2), (3, vI l3)] [] 0 0 (m_J7_fill_53178_L5 n l0 l1 l2 l3) := by
  obtain ⟨⟨hf, hlo⟩, ⟨hc1, hc2⟩, hf1, hl1⟩ := K_room K (by omega)
  have hcs : 0 ≤ C.2.2.2.2.1.cells ∧ 0 ≤ C.2.2.2.2.1.slots := ⟨Nat.zero_le _, Nat.zero_le _⟩
  intro n
  induction n with
  | zero => intros; exact s_none (fun _ => rfl)
  | succ n ih =>
    intro l0 l1 l2 l3 h1 h2 h3
    unfold m_J7_fill_53178_L5
    refine s_iload_n (j := 2) (pc2 := 6) X dJ7_fill_53178_5 rfl rfl ?_
    refine s_iload_n (j := 3) (pc2 := 7) X dJ7_fill_53178_6 rfl rfl ?_
    refine s_icge (tgt := 20) X dJ7_fill_53178_7 (by decide) rfl h2 h3 ?_ ?_
    · exact s_ret X dJ7_fill_53178_20
    · refine s_aload_n (j := 0) (pc2 := 11) X dJ7_fill_53178_10 rfl rfl ?_
      refine s_iload_n (j := 2) (pc2 := 12) X dJ7_fill_53178_11 rfl rfl ?_
      refine s_iload_n (j := 1) (pc2 := 13) X dJ7_fill_53178_12 rfl rfl ?_
      refine s_iast (pc2 := 14) X dJ7_fill_53178_13 rfl h1 ?_
      refine s_iinc (j := 2) (pc2 := 17) X dJ7_fill_53178_14 rfl (by decide) rfl rfl rfl cat1_I (fun w1 hw1 => ?_)
      refine s_goto (pc2 := 5) X dJ7_fill_53178_17 (by decide) ?_
      refine s_sub (lv2 := [(0, vR C.1.1 l0), (1, vI l1), (2, vI w1), (3, vI l3)]) [1, 2, 0, 3] rfl ?_
      exact ih l0 l1 w1 l3 h1 hw1 h3
set_option maxRecDepth 4000 in
set_option maxHeartbeats 20000000 in
theorem z_J7_fill_53178 (d : Nat) (hd : 1 ≤ d) {C : hCx} (K : hCtx C.1 C.2.2.1 d 0 0 "fill" C) (X : hOK C cJ7_fill_53178 RJ7 4 none) (l0 : Nat) (l1 : Int) (h1 : inI l1) : hSim C none 0 0 4 0 [(0, vR C.1.1 l0), (1, vI l1)] [] 0 0 (m_J7_fill_53178 l0 l1) := by
  obtain ⟨⟨hf, hlo⟩, ⟨hc1, hc2⟩, hf1, hl1⟩ := K_room K (by omega)
  have hcs : 0 ≤ C.2.2.2.2.1.cells ∧ 0 ≤ C.2.2.2.2.1.slots := ⟨Nat.zero_le _, Nat.zero_le _⟩
  unfold m_J7_fill_53178
  refine s_iconst (n := 0) (pc2 := 1) X dJ7_fill_53178_0 rfl ?_
  refine s_istore_n (pc2 := 2) X dJ7_fill_53178_1 rfl (by decide) rfl rfl cat1_I (inI_c 0 rfl) (fun w1 hw1 => ?_)
  refine s_aload_n (j := 1) (pc2 := 3) X dJ7_fill_53178_2 rfl rfl ?_
  refine s_alen20 (pc2 := 4) X dJ7_fill_53178_3 rfl (fun v2 hv2 => ?_)
  refine s_istore_n (pc2 := 5) X dJ7_fill_53178_4 rfl (by decide) rfl rfl cat1_I hv2 (fun w3 hw3 => ?_)
  refine s_sub (lv2 := [(0, vR C.1.1 l0), (1, vI l1), (2, vI w1), (3, vI w3)]) [2, 3, 1, 0] rfl ?_
  exact z_J7_fill_53178_L5 d hd K X 1000000000 l0 l1 w1 w3 h1 hw1 hw3
theorem c_J7_fill_53178 (d : Nat) (hd : 1 ≤ d) (G : hG) (l : Launch) (l0 : Nat) (l1 : Int) (h1 : inI l1) : hMet G l yJ7_fill_53178 cJ7_fill_53178 4 none d 0 0 [vR G.1 l0, vI l1] (m_J7_fill_53178 l0 l1) := by
  refine hMet.of (lv := [(0, vR G.1 l0), (1, vI l1)]) (by decide +kernel) (by simp [lg_sl, vR_cat, vI_cat, vL_cat, vS_cat2, vT_cat2]) (by simp [lv_args, vR_cat, vI_cat, vL_cat, vS_cat2, vT_cat2]) (fun C K X => ?_)
  obtain ⟨rfl, rfl, K⟩ := K
  exact z_J7_fill_53178 d hd ⟨rfl, rfl, K⟩ X l0 l1 h1
