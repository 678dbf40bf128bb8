/-! the tables' words that every method takes, and what the launch says beside them -/
def tG : List Cond := lw_tbl.filter goodWord
theorem tG_good : GoodIn tG tG := fun w h => ⟨h, good_of_word (List.mem_filter.mp h).2⟩
theorem tG_of {w : Cond} (i : Nat) (h : lw_tbl[i]? = some w) (hg : goodWord w = true) : w ∈ tG := List.mem_filter.mpr ⟨List.mem_of_getElem? h, hg⟩
def nestL : List (Nat × MethodName) := [(9, ⟨"ThriceBridge$Tape", "<init>", "()V"⟩), (67, ⟨"ThriceBridge$Town", "<init>", "()V"⟩), (105, ⟨"ThriceBridge$Rule", "<init>", "()V"⟩)]
def strT : List (String × Nat × String) := [("ThriceBridge$Town", 86, "town bridge ferry frost person crossed want"), ("ThriceBridge$Rule", 46, "cross"), ("ThriceBridge$Rule", 132, "person bridge from to home left day goal pay until nearer people"), ("ThriceBridge$Rule", 56, "if"), ("ThriceBridge$Rule", 94, "not"), ("ThriceBridge$Rule", 80, "and"), ("ThriceBridge$Rule", 85, "or")]
def strB : List (List Int32) := [[116, 111, 119, 110, 32, 98, 114, 105, 100, 103, 101, 32, 102, 101, 114, 114, 121, 32, 102, 114, 111, 115, 116, 32, 112, 101, 114, 115, 111, 110, 32, 99, 114, 111, 115, 115, 101, 100, 32, 119, 97, 110, 116], [99, 114, 111, 115, 115], [112, 101, 114, 115, 111, 110, 32, 98, 114, 105, 100, 103, 101, 32, 102, 114, 111, 109, 32, 116, 111, 32, 104, 111, 109, 101, 32, 108, 101, 102, 116, 32, 100, 97, 121, 32, 103, 111, 97, 108, 32, 112, 97, 121, 32, 117, 110, 116, 105, 108, 32, 110, 101, 97, 114, 101, 114, 32, 112, 101, 111, 112, 108, 101], [105, 102], [110, 111, 116], [97, 110, 100], [111, 114]]
def strN : List Nat := [43, 5, 64, 2, 3, 3, 2]
def hA (G : hG) : Nat → Prop := fun q => G.1 < q
def hStr (G : hG) (U : State) : Prop := vk_S 7 strN strB G.2.2.2.2.1 G.2.2.2.2.2 (hA G) U G.2.1 ∧ (∀ (i : Nat) (q : String × Nat × String), strT[i]? = some q → vk_R q.1 q.2.1 q.2.2 (G.2.2.2.2.1 i) U) ∧ va_Z "java/lang/String" "COMPACT_STRINGS" "Z" (.int 1) (hA G) U G.2.1 ∧ va_Zq "jdk/internal/util/Preconditions" "SIOOBE_FORMATTER" "Ljava/util/function/BiFunction;" (hA G) U G.2.1
def hNest (U : State) : Prop := (∀ q ∈ nestL, va_Nw (.methodLinkNest "ThriceBridge" q.1 q.2 "ThriceBridge") U) ∧ ∀ Cn ∈ [RX3, RX4, RX0], va_AO Cn U
def hT (G : hG) (U : State) : Prop := va_K G.2.2.1 vwCl [] U ∧ (∀ k, 20 ≤ k → k < 27 → ArrOfT U (G.2.2.2.1 k) (etOf k) ∧ va_RA U (G.2.2.2.1 k) (etOf k)) ∧ hNest U ∧ hStr G U ∧ G.2.1.size = G.1 + 1
theorem hT.same {G : hG} {u U : State} (hv : u.vm = U.vm) (h : hT G u) : hT G U := by
  have ha : u.vm.Alike U.vm := by rw [hv]; exact Vm.Alike.refl _
  obtain ⟨h1, h2, ⟨h3, h4⟩, ⟨h5, h6, h7, h9⟩, h8⟩ := h
  refine ⟨va_K.moved ha h1, fun k a b => ⟨arrOfT_moved ha (h2 k a b).1, (h2 k a b).2.moved ha⟩, ⟨fun q hq => va_Nw.same rfl hv (h3 q hq), fun Cn hC => va_AO.moved ha (h4 Cn hC)⟩, ⟨vk_S.moved ha h5, fun i q hi => vk_R.same hv.symm (h6 i q hi), va_Z.moved ha h7, va_Zq.moved ha h9⟩, h8⟩
theorem hT.warm {G : hG} {u U : State} (hv : u.WarmedH U.vm) (h : hT G u) : hT G U := by
  have ha : u.vm.Alike U.vm := hv.alike
  obtain ⟨h1, h2, ⟨h3, h4⟩, ⟨h5, h6, h7, h9⟩, h8⟩ := h
  refine ⟨va_K.moved ha h1, fun k a b => ⟨arrOfT_moved ha (h2 k a b).1, (h2 k a b).2.moved ha⟩, ⟨fun q hq => va_Nw.warmM hv (h3 q hq), fun Cn hC => va_AO.moved ha (h4 Cn hC)⟩, ⟨vk_S.moved ha h5, fun i q hi => vk_R.warm hv (h6 i q hi), va_Z.moved ha h7, va_Zq.moved ha h9⟩, h8⟩
/-! the walk's judgement -/
abbrev hCx : Type := hG × Program × Launch × Env × Room × State × MethodId × Array Value × List Frame × Method × Code
def hrv (ret : Option FieldType) (r : Int) : Option Value := match ret with
  | none => none
  | some .long => some (vL r)
  | some _ => some (vI r)
def hrin (ret : Option FieldType) (r : Int) : Prop := match ret with
  | none => True
  | some .long => inL r
  | some .boolean => r = 0 ∨ r = 1
  | some .char => 0 ≤ r ∧ r < 65536
  | some .byte => -128 ≤ r ∧ r ≤ 127
  | some _ => inI r
def hQc (G : hG) (ret : Option FieldType) (r : Int) (u' : hS) : Array Value → State → Outcome → State → Prop := fun _ _ oc t => oc = .returned (hrv ret r) ∧ hrin ret r ∧ hR G u' t.heap
def hOK (C : hCx) (cc : ByteArray) (own : String) (nL : Nat) (ret : Option FieldType) : Prop := match C with
  | (G, p, _, _, _, s, m, args, _, meth, c) => p.tables.exec = Jvm.exec ∧ c.code = cc ∧ c.maxLocals = nL ∧ s.vm.findClass own = some m.cls ∧ (∀ w ∈ tG, w.before args s = true) ∧ hT G s ∧ meth.sig.returnType = ret ∧ meth.locks = false
def hW (C : hCx) (H : Heap) (locs : List Loc) (cells slots : Nat) (Q : State → Prop) (g : MethodId → JFrame) : Prop := match C with
  | (_, p, l, e, R, s, m, args, below, meth, c) => W p l e R s m args below meth c H locs cells slots Q (g m)
def hMQ (C : hCx) (ret : Option FieldType) (mc ms : Nat) (r : Int) (u' : hS) : State → Prop := match C with
  | (G, _, _, _, _, s, _, args, below, _, _) => MQ below (hQc G ret r u') args s mc ms (hA G)
def hSim (C : hCx) (ret : Option FieldType) (mc ms nL pc : Nat) (lv : List (Nat × Value)) (st : List Value) (cells slots : Nat) (P : hM) : Prop :=
  ∀ (u : hS) (r : Int) (u' : hS) (H : Heap) (locs : List Loc) (ls : Array Slot), P u = some (r, u') → hR C.1 u H → (∀ q ∈ locs, hA C.1 q.base) → lv_has ls nL lv → hW C H locs cells slots (hMQ C ret mc ms r u') (fun m => F0 m pc ls st)
theorem s_iadd {C : hCx} {cc : ByteArray} {own : String} {nL : Nat} {ret : Option FieldType} {mc ms pc pc2 : Nat} {lv : List (Nat × Value)} {st : List Value} {cells slots : Nat} {P : hM} (X : hOK C cc own nL ret) {x y : Int} (hd : decode cc pc = .ok (.iadd, 1)) (hp : pc + 1 = pc2) (k : hSim C ret mc ms nL pc2 lv (vI (w32 (x + y)) :: st) cells slots P) : hSim C ret mc ms nL pc lv (vI y :: vI x :: st) cells slots P := by
  subst hp
  obtain ⟨G, p, l, e, R, s, m, args, below, meth, c⟩ := C
  intro u r u1 H locs ls h1 h2 h3 h4
  have k9 := k u r u1 H locs ls h1 h2 h3 h4
  refine lv_iadd X.1 X.2.1 hd ?_
  have q9 : Int32.ofInt (w32 (x + y)) = Int32.ofInt x + Int32.ofInt y := by rw [of_w32, Int32.ofInt_add]
  rw [← q9]
  exact k9
theorem s_isub {C : hCx} {cc : ByteArray} {own : String} {nL : Nat} {ret : Option FieldType} {mc ms pc pc2 : Nat} {lv : List (Nat × Value)} {st : List Value} {cells slots : Nat} {P : hM} (X : hOK C cc own nL ret) {x y : Int} (hd : decode cc pc = .ok (.isub, 1)) (hp : pc + 1 = pc2) (k : hSim C ret mc ms nL pc2 lv (vI (w32 (x - y)) :: st) cells slots P) : hSim C ret mc ms nL pc lv (vI y :: vI x :: st) cells slots P := by
  subst hp
  obtain ⟨G, p, l, e, R, s, m, args, below, meth, c⟩ := C
  intro u r u1 H locs ls h1 h2 h3 h4
  have k9 := k u r u1 H locs ls h1 h2 h3 h4
  refine lv_isub X.1 X.2.1 hd ?_
  have q9 : Int32.ofInt (w32 (x - y)) = Int32.ofInt x - Int32.ofInt y := by rw [of_w32, Int32.ofInt_sub]
  rw [← q9]
  exact k9
theorem s_imul {C : hCx} {cc : ByteArray} {own : String} {nL : Nat} {ret : Option FieldType} {mc ms pc pc2 : Nat} {lv : List (Nat × Value)} {st : List Value} {cells slots : Nat} {P : hM} (X : hOK C cc own nL ret) {x y : Int} (hd : decode cc pc = .ok (.imul, 1)) (hp : pc + 1 = pc2) (k : hSim C ret mc ms nL pc2 lv (vI (w32 (x * y)) :: st) cells slots P) : hSim C ret mc ms nL pc lv (vI y :: vI x :: st) cells slots P := by
  subst hp
  obtain ⟨G, p, l, e, R, s, m, args, below, meth, c⟩ := C
  intro u r u1 H locs ls h1 h2 h3 h4
  have k9 := k u r u1 H locs ls h1 h2 h3 h4
  refine lv_imul X.1 X.2.1 hd ?_
  have q9 : Int32.ofInt (w32 (x * y)) = Int32.ofInt x * Int32.ofInt y := by rw [of_w32, Int32.ofInt_mul]
  rw [← q9]
  exact k9
theorem s_iand {C : hCx} {cc : ByteArray} {own : String} {nL : Nat} {ret : Option FieldType} {mc ms pc pc2 : Nat} {lv : List (Nat × Value)} {st : List Value} {cells slots : Nat} {P : hM} (X : hOK C cc own nL ret) {x y : Int} (hd : decode cc pc = .ok (.iand, 1)) (hp : pc + 1 = pc2) (k : hSim C ret mc ms nL pc2 lv (vI (iandZ x y) :: st) cells slots P) : hSim C ret mc ms nL pc lv (vI y :: vI x :: st) cells slots P := by
  subst hp
  obtain ⟨G, p, l, e, R, s, m, args, below, meth, c⟩ := C
  intro u r u1 H locs ls h1 h2 h3 h4
  have k9 := k u r u1 H locs ls h1 h2 h3 h4
  refine lv_iand X.1 X.2.1 hd ?_
  have q9 : Int32.ofInt (iandZ x y) = Int32.ofInt x &&& Int32.ofInt y := Int32.ofInt_toInt _
  rw [← q9]
  exact k9
theorem s_ior {C : hCx} {cc : ByteArray} {own : String} {nL : Nat} {ret : Option FieldType} {mc ms pc pc2 : Nat} {lv : List (Nat × Value)} {st : List Value} {cells slots : Nat} {P : hM} (X : hOK C cc own nL ret) {x y : Int} (hd : decode cc pc = .ok (.ior, 1)) (hp : pc + 1 = pc2) (k : hSim C ret mc ms nL pc2 lv (vI (iorZ x y) :: st) cells slots P) : hSim C ret mc ms nL pc lv (vI y :: vI x :: st) cells slots P := by
  subst hp
  obtain ⟨G, p, l, e, R, s, m, args, below, meth, c⟩ := C
  intro u r u1 H locs ls h1 h2 h3 h4
  have k9 := k u r u1 H locs ls h1 h2 h3 h4
  refine lv_ior X.1 X.2.1 hd ?_
  have q9 : Int32.ofInt (iorZ x y) = Int32.ofInt x ||| Int32.ofInt y := Int32.ofInt_toInt _
  rw [← q9]
  exact k9
theorem s_ixor {C : hCx} {cc : ByteArray} {own : String} {nL : Nat} {ret : Option FieldType} {mc ms pc pc2 : Nat} {lv : List (Nat × Value)} {st : List Value} {cells slots : Nat} {P : hM} (X : hOK C cc own nL ret) {x y : Int} (hd : decode cc pc = .ok (.ixor, 1)) (hp : pc + 1 = pc2) (k : hSim C ret mc ms nL pc2 lv (vI (ixorZ x y) :: st) cells slots P) : hSim C ret mc ms nL pc lv (vI y :: vI x :: st) cells slots P := by
  subst hp
  obtain ⟨G, p, l, e, R, s, m, args, below, meth, c⟩ := C
  intro u r u1 H locs ls h1 h2 h3 h4
  have k9 := k u r u1 H locs ls h1 h2 h3 h4
  refine lv_ixor X.1 X.2.1 hd ?_
  have q9 : Int32.ofInt (ixorZ x y) = Int32.ofInt x ^^^ Int32.ofInt y := Int32.ofInt_toInt _
  rw [← q9]
  exact k9
theorem s_ishl {C : hCx} {cc : ByteArray} {own : String} {nL : Nat} {ret : Option FieldType} {mc ms pc pc2 : Nat} {lv : List (Nat × Value)} {st : List Value} {cells slots : Nat} {P : hM} (X : hOK C cc own nL ret) {x y : Int} (hd : decode cc pc = .ok (.ishl, 1)) (hp : pc + 1 = pc2) (k : hSim C ret mc ms nL pc2 lv (vI (ishlZ x y) :: st) cells slots P) : hSim C ret mc ms nL pc lv (vI y :: vI x :: st) cells slots P := by
  subst hp
  obtain ⟨G, p, l, e, R, s, m, args, below, meth, c⟩ := C
  intro u r u1 H locs ls h1 h2 h3 h4
  have k9 := k u r u1 H locs ls h1 h2 h3 h4
  refine lv_ishl X.1 X.2.1 hd ?_
  have q9 : Int32.ofInt (ishlZ x y) = Int32.ofInt x <<< (Int32.ofInt y &&& 31) := Int32.ofInt_toInt _
  rw [← q9]
  exact k9
theorem s_ishr {C : hCx} {cc : ByteArray} {own : String} {nL : Nat} {ret : Option FieldType} {mc ms pc pc2 : Nat} {lv : List (Nat × Value)} {st : List Value} {cells slots : Nat} {P : hM} (X : hOK C cc own nL ret) {x y : Int} (hd : decode cc pc = .ok (.ishr, 1)) (hp : pc + 1 = pc2) (k : hSim C ret mc ms nL pc2 lv (vI (ishrZ x y) :: st) cells slots P) : hSim C ret mc ms nL pc lv (vI y :: vI x :: st) cells slots P := by
  subst hp
  obtain ⟨G, p, l, e, R, s, m, args, below, meth, c⟩ := C
  intro u r u1 H locs ls h1 h2 h3 h4
  have k9 := k u r u1 H locs ls h1 h2 h3 h4
  refine lv_ishr X.1 X.2.1 hd ?_
  have q9 : Int32.ofInt (ishrZ x y) = Int32.ofInt x >>> (Int32.ofInt y &&& 31) := Int32.ofInt_toInt _
  rw [← q9]
  exact k9
theorem s_iushr {C : hCx} {cc : ByteArray} {own : String} {nL : Nat} {ret : Option FieldType} {mc ms pc pc2 : Nat} {lv : List (Nat × Value)} {st : List Value} {cells slots : Nat} {P : hM} (X : hOK C cc own nL ret) {x y : Int} (hd : decode cc pc = .ok (.iushr, 1)) (hp : pc + 1 = pc2) (k : hSim C ret mc ms nL pc2 lv (vI (iushrZ x y) :: st) cells slots P) : hSim C ret mc ms nL pc lv (vI y :: vI x :: st) cells slots P := by
  subst hp
  obtain ⟨G, p, l, e, R, s, m, args, below, meth, c⟩ := C
  intro u r u1 H locs ls h1 h2 h3 h4
  have k9 := k u r u1 H locs ls h1 h2 h3 h4
  refine lv_iushr X.1 X.2.1 hd (Int32.ofInt_toInt _).symm ?_
  exact k9
theorem s_lshl {C : hCx} {cc : ByteArray} {own : String} {nL : Nat} {ret : Option FieldType} {mc ms pc pc2 : Nat} {lv : List (Nat × Value)} {st : List Value} {cells slots : Nat} {P : hM} (X : hOK C cc own nL ret) {x y : Int} (hd : decode cc pc = .ok (.lshl, 1)) (hp : pc + 1 = pc2) (k : hSim C ret mc ms nL pc2 lv (vL (lshlZ x y) :: st) cells slots P) : hSim C ret mc ms nL pc lv (vI y :: vL x :: st) cells slots P := by
  subst hp
  obtain ⟨G, p, l, e, R, s, m, args, below, meth, c⟩ := C
  intro u r u1 H locs ls h1 h2 h3 h4
  have k9 := k u r u1 H locs ls h1 h2 h3 h4
  refine lv_lshl X.1 X.2.1 hd (Int64.ofInt_toInt _).symm ?_
  exact k9
theorem s_ladd {C : hCx} {cc : ByteArray} {own : String} {nL : Nat} {ret : Option FieldType} {mc ms pc pc2 : Nat} {lv : List (Nat × Value)} {st : List Value} {cells slots : Nat} {P : hM} (X : hOK C cc own nL ret) {x y : Int} (hd : decode cc pc = .ok (.ladd, 1)) (hp : pc + 1 = pc2) (k : hSim C ret mc ms nL pc2 lv (vL (w64 (x + y)) :: st) cells slots P) : hSim C ret mc ms nL pc lv (vL y :: vL x :: st) cells slots P := by
  subst hp
  obtain ⟨G, p, l, e, R, s, m, args, below, meth, c⟩ := C
  intro u r u1 H locs ls h1 h2 h3 h4
  have k9 := k u r u1 H locs ls h1 h2 h3 h4
  refine lv_ladd X.1 X.2.1 hd ?_
  have q9 : Int64.ofInt (w64 (x + y)) = Int64.ofInt x + Int64.ofInt y := by rw [of_w64, Int64.ofInt_add]
  rw [← q9]
  exact k9
theorem s_lsub {C : hCx} {cc : ByteArray} {own : String} {nL : Nat} {ret : Option FieldType} {mc ms pc pc2 : Nat} {lv : List (Nat × Value)} {st : List Value} {cells slots : Nat} {P : hM} (X : hOK C cc own nL ret) {x y : Int} (hd : decode cc pc = .ok (.lsub, 1)) (hp : pc + 1 = pc2) (k : hSim C ret mc ms nL pc2 lv (vL (w64 (x - y)) :: st) cells slots P) : hSim C ret mc ms nL pc lv (vL y :: vL x :: st) cells slots P := by
  subst hp
  obtain ⟨G, p, l, e, R, s, m, args, below, meth, c⟩ := C
  intro u r u1 H locs ls h1 h2 h3 h4
  have k9 := k u r u1 H locs ls h1 h2 h3 h4
  refine lv_lsub X.1 X.2.1 hd ?_
  have q9 : Int64.ofInt (w64 (x - y)) = Int64.ofInt x - Int64.ofInt y := by rw [of_w64, Int64.ofInt_sub]
  rw [← q9]
  exact k9
theorem s_lmul {C : hCx} {cc : ByteArray} {own : String} {nL : Nat} {ret : Option FieldType} {mc ms pc pc2 : Nat} {lv : List (Nat × Value)} {st : List Value} {cells slots : Nat} {P : hM} (X : hOK C cc own nL ret) {x y : Int} (hd : decode cc pc = .ok (.lmul, 1)) (hp : pc + 1 = pc2) (k : hSim C ret mc ms nL pc2 lv (vL (w64 (x * y)) :: st) cells slots P) : hSim C ret mc ms nL pc lv (vL y :: vL x :: st) cells slots P := by
  subst hp
  obtain ⟨G, p, l, e, R, s, m, args, below, meth, c⟩ := C
  intro u r u1 H locs ls h1 h2 h3 h4
  have k9 := k u r u1 H locs ls h1 h2 h3 h4
  refine lv_lmul X.1 X.2.1 hd ?_
  have q9 : Int64.ofInt (w64 (x * y)) = Int64.ofInt x * Int64.ofInt y := by rw [of_w64, Int64.ofInt_mul]
  rw [← q9]
  exact k9
theorem s_land {C : hCx} {cc : ByteArray} {own : String} {nL : Nat} {ret : Option FieldType} {mc ms pc pc2 : Nat} {lv : List (Nat × Value)} {st : List Value} {cells slots : Nat} {P : hM} (X : hOK C cc own nL ret) {x y : Int} (hd : decode cc pc = .ok (.land, 1)) (hp : pc + 1 = pc2) (k : hSim C ret mc ms nL pc2 lv (vL (landZ x y) :: st) cells slots P) : hSim C ret mc ms nL pc lv (vL y :: vL x :: st) cells slots P := by
  subst hp
  obtain ⟨G, p, l, e, R, s, m, args, below, meth, c⟩ := C
  intro u r u1 H locs ls h1 h2 h3 h4
  have k9 := k u r u1 H locs ls h1 h2 h3 h4
  refine lv_land X.1 X.2.1 hd ?_
  have q9 : Int64.ofInt (landZ x y) = Int64.ofInt x &&& Int64.ofInt y := Int64.ofInt_toInt _
  rw [← q9]
  exact k9
theorem s_lor {C : hCx} {cc : ByteArray} {own : String} {nL : Nat} {ret : Option FieldType} {mc ms pc pc2 : Nat} {lv : List (Nat × Value)} {st : List Value} {cells slots : Nat} {P : hM} (X : hOK C cc own nL ret) {x y : Int} (hd : decode cc pc = .ok (.lor, 1)) (hp : pc + 1 = pc2) (k : hSim C ret mc ms nL pc2 lv (vL (lorZ x y) :: st) cells slots P) : hSim C ret mc ms nL pc lv (vL y :: vL x :: st) cells slots P := by
  subst hp
  obtain ⟨G, p, l, e, R, s, m, args, below, meth, c⟩ := C
  intro u r u1 H locs ls h1 h2 h3 h4
  have k9 := k u r u1 H locs ls h1 h2 h3 h4
  refine lv_lor X.1 X.2.1 hd ?_
  have q9 : Int64.ofInt (lorZ x y) = Int64.ofInt x ||| Int64.ofInt y := Int64.ofInt_toInt _
  rw [← q9]
  exact k9
theorem s_i2l {C : hCx} {cc : ByteArray} {own : String} {nL : Nat} {ret : Option FieldType} {mc ms pc pc2 : Nat} {lv : List (Nat × Value)} {st : List Value} {cells slots : Nat} {P : hM} (X : hOK C cc own nL ret) {x : Int} (hd : decode cc pc = .ok (.i2l, 1)) (hp : pc + 1 = pc2) (hx : inI x) (k : hSim C ret mc ms nL pc2 lv (vL x :: st) cells slots P) : hSim C ret mc ms nL pc lv (vI x :: st) cells slots P := by
  subst hp
  obtain ⟨G, p, l, e, R, s, m, args, below, meth, c⟩ := C
  intro u r u1 H locs ls h1 h2 h3 h4
  have k9 := k u r u1 H locs ls h1 h2 h3 h4
  refine lv_i2l X.1 X.2.1 hd ?_ k9
  exact Int64.toInt_inj.mp (by rw [Int32.toInt_toInt64, ofI_to hx, ofL_to (inL_of hx)])
theorem s_l2i {C : hCx} {cc : ByteArray} {own : String} {nL : Nat} {ret : Option FieldType} {mc ms pc pc2 : Nat} {lv : List (Nat × Value)} {st : List Value} {cells slots : Nat} {P : hM} (X : hOK C cc own nL ret) {x : Int} (hd : decode cc pc = .ok (.l2i, 1)) (hp : pc + 1 = pc2) (hx : inL x) (k : hSim C ret mc ms nL pc2 lv (vI (w32 x) :: st) cells slots P) : hSim C ret mc ms nL pc lv (vL x :: st) cells slots P := by
  subst hp
  obtain ⟨G, p, l, e, R, s, m, args, below, meth, c⟩ := C
  intro u r u1 H locs ls h1 h2 h3 h4
  have k9 := k u r u1 H locs ls h1 h2 h3 h4
  refine lv_l2i X.1 X.2.1 hd ?_ k9
  exact Int32.toInt_inj.mp (by rw [Int64.toInt_toInt32, ofL_to hx, of_w32, Int32.toInt_ofInt])
theorem s_i2b {C : hCx} {cc : ByteArray} {own : String} {nL : Nat} {ret : Option FieldType} {mc ms pc pc2 : Nat} {lv : List (Nat × Value)} {st : List Value} {cells slots : Nat} {P : hM} (X : hOK C cc own nL ret) {x : Int} (hd : decode cc pc = .ok (.i2b, 1)) (hp : pc + 1 = pc2) (k : hSim C ret mc ms nL pc2 lv (vI (i2bZ x) :: st) cells slots P) : hSim C ret mc ms nL pc lv (vI x :: st) cells slots P := by
  subst hp
  obtain ⟨G, p, l, e, R, s, m, args, below, meth, c⟩ := C
  intro u r u1 H locs ls h1 h2 h3 h4
  have k9 := k u r u1 H locs ls h1 h2 h3 h4
  exact lv_i2b X.1 X.2.1 hd (Int32.ofInt_toInt _).symm k9
theorem s_i2c {C : hCx} {cc : ByteArray} {own : String} {nL : Nat} {ret : Option FieldType} {mc ms pc pc2 : Nat} {lv : List (Nat × Value)} {st : List Value} {cells slots : Nat} {P : hM} (X : hOK C cc own nL ret) {x : Int} (hd : decode cc pc = .ok (.i2c, 1)) (hp : pc + 1 = pc2) (k : hSim C ret mc ms nL pc2 lv (vI (i2cZ x) :: st) cells slots P) : hSim C ret mc ms nL pc lv (vI x :: st) cells slots P := by
  subst hp
  obtain ⟨G, p, l, e, R, s, m, args, below, meth, c⟩ := C
  intro u r u1 H locs ls h1 h2 h3 h4
  have k9 := k u r u1 H locs ls h1 h2 h3 h4
  exact lv_i2c X.1 X.2.1 hd (Int32.ofInt_toInt _).symm k9
theorem s_lcmp {C : hCx} {cc : ByteArray} {own : String} {nL : Nat} {ret : Option FieldType} {mc ms pc pc2 : Nat} {lv : List (Nat × Value)} {st : List Value} {cells slots : Nat} {P : hM} (X : hOK C cc own nL ret) {x y : Int} (hd : decode cc pc = .ok (.lcmp, 1)) (hp : pc + 1 = pc2) (hx : inL x) (hy : inL y) (k : hSim C ret mc ms nL pc2 lv (vI (lcmpZ x y) :: st) cells slots P) : hSim C ret mc ms nL pc lv (vL y :: vL x :: st) cells slots P := by
  subst hp
  obtain ⟨G, p, l, e, R, s, m, args, below, meth, c⟩ := C
  intro u r u1 H locs ls h1 h2 h3 h4
  have k9 := k u r u1 H locs ls h1 h2 h3 h4
  refine W.lcmp X.1 X.2.1 hd ?_
  have q9 : lg_cmp (Int64.ofInt x) (Int64.ofInt y) = Int32.ofInt (lcmpZ x y) := by
    unfold lg_cmp lcmpZ
    have e1 : Int64.ofInt x > Int64.ofInt y ↔ y < x := by
      show Int64.ofInt y < Int64.ofInt x ↔ _
      rw [Int64.lt_iff_toInt_lt, ofL_to hx, ofL_to hy]
    have e2 : Int64.ofInt x = Int64.ofInt y ↔ x = y := ⟨fun h => by rw [← ofL_to hx, ← ofL_to hy, h], fun h => by rw [h]⟩
    by_cases a1 : y < x
    · rw [if_pos (e1.mpr a1), if_pos a1]; rfl
    · rw [if_neg (fun z => a1 (e1.mp z)), if_neg a1]
      by_cases a2 : x = y
      · rw [if_pos (e2.mpr a2), if_pos a2]; rfl
      · rw [if_neg (fun z => a2 (e2.mp z)), if_neg a2]; rfl
  rw [q9]
  exact k9
theorem s_iconst {C : hCx} {cc : ByteArray} {own : String} {nL : Nat} {ret : Option FieldType} {mc ms pc pc2 : Nat} {lv : List (Nat × Value)} {st : List Value} {cells slots : Nat} {P : hM} (X : hOK C cc own nL ret) {n : Int} (hd : decode cc pc = .ok (.iconst n, 1)) (hp : pc + 1 = pc2) (k : hSim C ret mc ms nL pc2 lv (vI n :: st) cells slots P) : hSim C ret mc ms nL pc lv (st) cells slots P := by
  subst hp
  obtain ⟨G, p, l, e, R, s, m, args, below, meth, c⟩ := C
  intro u r u1 H locs ls h1 h2 h3 h4
  have k9 := k u r u1 H locs ls h1 h2 h3 h4
  exact lv_iconst X.1 X.2.1 hd rfl k9
theorem s_bipush {C : hCx} {cc : ByteArray} {own : String} {nL : Nat} {ret : Option FieldType} {mc ms pc pc2 : Nat} {lv : List (Nat × Value)} {st : List Value} {cells slots : Nat} {P : hM} (X : hOK C cc own nL ret) {n : Int} (hd : decode cc pc = .ok (.bipush n, 2)) (hp : pc + 2 = pc2) (hv : (Int8.ofInt n).toInt32 = Int32.ofInt n) (k : hSim C ret mc ms nL pc2 lv (vI n :: st) cells slots P) : hSim C ret mc ms nL pc lv (st) cells slots P := by
  subst hp
  obtain ⟨G, p, l, e, R, s, m, args, below, meth, c⟩ := C
  intro u r u1 H locs ls h1 h2 h3 h4
  have k9 := k u r u1 H locs ls h1 h2 h3 h4
  exact lv_bipush X.1 X.2.1 hd hv k9
theorem s_sipush {C : hCx} {cc : ByteArray} {own : String} {nL : Nat} {ret : Option FieldType} {mc ms pc pc2 : Nat} {lv : List (Nat × Value)} {st : List Value} {cells slots : Nat} {P : hM} (X : hOK C cc own nL ret) {n : Int} (hd : decode cc pc = .ok (.sipush n, 3)) (hp : pc + 3 = pc2) (hv : (Int16.ofInt n).toInt32 = Int32.ofInt n) (k : hSim C ret mc ms nL pc2 lv (vI n :: st) cells slots P) : hSim C ret mc ms nL pc lv (st) cells slots P := by
  subst hp
  obtain ⟨G, p, l, e, R, s, m, args, below, meth, c⟩ := C
  intro u r u1 H locs ls h1 h2 h3 h4
  have k9 := k u r u1 H locs ls h1 h2 h3 h4
  exact lv_sipush X.1 X.2.1 hd hv k9
theorem s_lconst {C : hCx} {cc : ByteArray} {own : String} {nL : Nat} {ret : Option FieldType} {mc ms pc pc2 : Nat} {lv : List (Nat × Value)} {st : List Value} {cells slots : Nat} {P : hM} (X : hOK C cc own nL ret) {n : Fin 2} {z : Int} (hd : decode cc pc = .ok (.lconst n, 1)) (hp : pc + 1 = pc2) (hv : Int64.ofNat (n : Nat) = Int64.ofInt z) (k : hSim C ret mc ms nL pc2 lv (vL z :: st) cells slots P) : hSim C ret mc ms nL pc lv (st) cells slots P := by
  subst hp
  obtain ⟨G, p, l, e, R, s, m, args, below, meth, c⟩ := C
  intro u r u1 H locs ls h1 h2 h3 h4
  have k9 := k u r u1 H locs ls h1 h2 h3 h4
  exact lv_lconst X.1 X.2.1 hd hv k9
theorem s_ldc2 {C : hCx} {cc : ByteArray} {own : String} {nL : Nat} {ret : Option FieldType} {mc ms pc pc2 : Nat} {lv : List (Nat × Value)} {st : List Value} {cells slots : Nat} {P : hM} (X : hOK C cc own nL ret) {i : Nat} {z : Int} (hd : decode cc pc = .ok (.ldc2_w i, 3)) (hp : pc + 3 = pc2) (hc : Cond.constantLong own i (Int64.ofInt z) ∈ tG) (k : hSim C ret mc ms nL pc2 lv (vL z :: st) cells slots P) : hSim C ret mc ms nL pc lv (st) cells slots P := by
  subst hp
  obtain ⟨G, p, l, e, R, s, m, args, below, meth, c⟩ := C
  intro u r u1 H locs ls h1 h2 h3 h4
  have k9 := k u r u1 H locs ls h1 h2 h3 h4
  exact lv_ldc2 X.1 X.2.1 X.2.2.2.1 (X.2.2.2.2.1 _ hc) hd k9
theorem s_ldc {C : hCx} {cc : ByteArray} {own : String} {nL : Nat} {ret : Option FieldType} {mc ms pc pc2 : Nat} {lv : List (Nat × Value)} {st : List Value} {cells slots : Nat} {P : hM} (X : hOK C cc own nL ret) {i : Nat} {z : Int} (hd : decode cc pc = .ok (.ldc i, 2)) (hp : pc + 2 = pc2) (hc : Cond.constant own i (Int32.ofInt z) ∈ tG) (k : hSim C ret mc ms nL pc2 lv (vI z :: st) cells slots P) : hSim C ret mc ms nL pc lv (st) cells slots P := by
  subst hp
  obtain ⟨G, p, l, e, R, s, m, args, below, meth, c⟩ := C
  intro u r u1 H locs ls h1 h2 h3 h4
  have k9 := k u r u1 H locs ls h1 h2 h3 h4
  exact lv_ldc X.1 X.2.1 X.2.2.2.1 (X.2.2.2.2.1 _ hc) hd k9
theorem s_ldcw {C : hCx} {cc : ByteArray} {own : String} {nL : Nat} {ret : Option FieldType} {mc ms pc pc2 : Nat} {lv : List (Nat × Value)} {st : List Value} {cells slots : Nat} {P : hM} (X : hOK C cc own nL ret) {i : Nat} {z : Int} (hd : decode cc pc = .ok (.ldc_w i, 3)) (hp : pc + 3 = pc2) (hc : Cond.constant own i (Int32.ofInt z) ∈ tG) (k : hSim C ret mc ms nL pc2 lv (vI z :: st) cells slots P) : hSim C ret mc ms nL pc lv (st) cells slots P := by
  subst hp
  obtain ⟨G, p, l, e, R, s, m, args, below, meth, c⟩ := C
  intro u r u1 H locs ls h1 h2 h3 h4
  have k9 := k u r u1 H locs ls h1 h2 h3 h4
  exact lv_ldcw X.1 X.2.1 X.2.2.2.1 (X.2.2.2.2.1 _ hc) hd k9
theorem s_iload_n {C : hCx} {cc : ByteArray} {own : String} {nL : Nat} {ret : Option FieldType} {mc ms pc pc2 : Nat} {lv : List (Nat × Value)} {st : List Value} {cells slots : Nat} {P : hM} (X : hOK C cc own nL ret) {k0 : Fin 4} {j : Nat} {x : Int} (hd : decode cc pc = .ok (.iload_n k0, 1)) (hp : pc + 1 = pc2) (hj : lv[j]? = some (k0.val, vI x)) (k : hSim C ret mc ms nL pc2 lv (vI x :: st) cells slots P) : hSim C ret mc ms nL pc lv (st) cells slots P := by
  subst hp
  obtain ⟨G, p, l, e, R, s, m, args, below, meth, c⟩ := C
  intro u r u1 H locs ls h1 h2 h3 h4
  have k9 := k u r u1 H locs ls h1 h2 h3 h4
  exact lv_iload_n X.1 X.2.1 hd rfl (lv_at h4 j hj) k9
theorem s_iload {C : hCx} {cc : ByteArray} {own : String} {nL : Nat} {ret : Option FieldType} {mc ms pc pc2 : Nat} {lv : List (Nat × Value)} {st : List Value} {cells slots : Nat} {P : hM} (X : hOK C cc own nL ret) {i j : Nat} {x : Int} (hd : decode cc pc = .ok (.iload i, 2)) (hp : pc + 2 = pc2) (hj : lv[j]? = some (i, vI x)) (k : hSim C ret mc ms nL pc2 lv (vI x :: st) cells slots P) : hSim C ret mc ms nL pc lv (st) cells slots P := by
  subst hp
  obtain ⟨G, p, l, e, R, s, m, args, below, meth, c⟩ := C
  intro u r u1 H locs ls h1 h2 h3 h4
  have k9 := k u r u1 H locs ls h1 h2 h3 h4
  exact lv_iload X.1 X.2.1 hd (lv_at h4 j hj) k9
theorem s_lload_n {C : hCx} {cc : ByteArray} {own : String} {nL : Nat} {ret : Option FieldType} {mc ms pc pc2 : Nat} {lv : List (Nat × Value)} {st : List Value} {cells slots : Nat} {P : hM} (X : hOK C cc own nL ret) {k0 : Fin 4} {j : Nat} {x : Int} (hd : decode cc pc = .ok (.lload_n k0, 1)) (hp : pc + 1 = pc2) (hj : lv[j]? = some (k0.val, vL x)) (k : hSim C ret mc ms nL pc2 lv (vL x :: st) cells slots P) : hSim C ret mc ms nL pc lv (st) cells slots P := by
  subst hp
  obtain ⟨G, p, l, e, R, s, m, args, below, meth, c⟩ := C
  intro u r u1 H locs ls h1 h2 h3 h4
  have k9 := k u r u1 H locs ls h1 h2 h3 h4
  exact lv_lload_n X.1 X.2.1 hd rfl (lv_at h4 j hj) k9
theorem s_lload {C : hCx} {cc : ByteArray} {own : String} {nL : Nat} {ret : Option FieldType} {mc ms pc pc2 : Nat} {lv : List (Nat × Value)} {st : List Value} {cells slots : Nat} {P : hM} (X : hOK C cc own nL ret) {i j : Nat} {x : Int} (hd : decode cc pc = .ok (.lload i, 2)) (hp : pc + 2 = pc2) (hj : lv[j]? = some (i, vL x)) (k : hSim C ret mc ms nL pc2 lv (vL x :: st) cells slots P) : hSim C ret mc ms nL pc lv (st) cells slots P := by
  subst hp
  obtain ⟨G, p, l, e, R, s, m, args, below, meth, c⟩ := C
  intro u r u1 H locs ls h1 h2 h3 h4
  have k9 := k u r u1 H locs ls h1 h2 h3 h4
  exact lv_lload X.1 X.2.1 hd (lv_at h4 j hj) k9
theorem s_aload_n {C : hCx} {cc : ByteArray} {own : String} {nL : Nat} {ret : Option FieldType} {mc ms pc pc2 : Nat} {lv : List (Nat × Value)} {st : List Value} {cells slots : Nat} {P : hM} (X : hOK C cc own nL ret) {k0 : Fin 4} {j B x : Nat} (hd : decode cc pc = .ok (.aload_n k0, 1)) (hp : pc + 1 = pc2) (hj : lv[j]? = some (k0.val, vR B x)) (k : hSim C ret mc ms nL pc2 lv (vR B x :: st) cells slots P) : hSim C ret mc ms nL pc lv (st) cells slots P := by
  subst hp
  obtain ⟨G, p, l, e, R, s, m, args, below, meth, c⟩ := C
  intro u r u1 H locs ls h1 h2 h3 h4
  have k9 := k u r u1 H locs ls h1 h2 h3 h4
  unfold vR at hj k9
  by_cases hx : x = 0
  · rw [if_pos hx] at hj k9
    exact lv_aload_nN X.1 X.2.1 hd rfl (lv_at h4 j hj) k9
  · rw [if_neg hx] at hj k9
    exact lv_aload_n X.1 X.2.1 hd rfl (lv_at h4 j hj) k9
theorem s_sload_n {C : hCx} {cc : ByteArray} {own : String} {nL : Nat} {ret : Option FieldType} {mc ms pc pc2 : Nat} {lv : List (Nat × Value)} {st : List Value} {cells slots : Nat} {P : hM} (X : hOK C cc own nL ret) {k0 : Fin 4} {j x : Nat} (hd : decode cc pc = .ok (.aload_n k0, 1)) (hp : pc + 1 = pc2) (hj : lv[j]? = some (k0.val, .ref x)) (k : hSim C ret mc ms nL pc2 lv (.ref x :: st) cells slots P) : hSim C ret mc ms nL pc lv (st) cells slots P := by
  subst hp
  obtain ⟨G, p, l, e, R, s, m, args, below, meth, c⟩ := C
  intro u r u1 H locs ls h1 h2 h3 h4
  have k9 := k u r u1 H locs ls h1 h2 h3 h4
  exact lv_aload_n X.1 X.2.1 hd rfl (lv_at h4 j hj) k9
theorem s_aload {C : hCx} {cc : ByteArray} {own : String} {nL : Nat} {ret : Option FieldType} {mc ms pc pc2 : Nat} {lv : List (Nat × Value)} {st : List Value} {cells slots : Nat} {P : hM} (X : hOK C cc own nL ret) {i j B x : Nat} (hd : decode cc pc = .ok (.aload i, 2)) (hp : pc + 2 = pc2) (hj : lv[j]? = some (i, vR B x)) (k : hSim C ret mc ms nL pc2 lv (vR B x :: st) cells slots P) : hSim C ret mc ms nL pc lv (st) cells slots P := by
  subst hp
  obtain ⟨G, p, l, e, R, s, m, args, below, meth, c⟩ := C
  intro u r u1 H locs ls h1 h2 h3 h4
  have k9 := k u r u1 H locs ls h1 h2 h3 h4
  unfold vR at hj k9
  by_cases hx : x = 0
  · rw [if_pos hx] at hj k9
    exact lv_aloadN X.1 X.2.1 hd (lv_at h4 j hj) k9
  · rw [if_neg hx] at hj k9
    exact lv_aload X.1 X.2.1 hd (lv_at h4 j hj) k9
theorem s_sload {C : hCx} {cc : ByteArray} {own : String} {nL : Nat} {ret : Option FieldType} {mc ms pc pc2 : Nat} {lv : List (Nat × Value)} {st : List Value} {cells slots : Nat} {P : hM} (X : hOK C cc own nL ret) {i j x : Nat} (hd : decode cc pc = .ok (.aload i, 2)) (hp : pc + 2 = pc2) (hj : lv[j]? = some (i, .ref x)) (k : hSim C ret mc ms nL pc2 lv (.ref x :: st) cells slots P) : hSim C ret mc ms nL pc lv (st) cells slots P := by
  subst hp
  obtain ⟨G, p, l, e, R, s, m, args, below, meth, c⟩ := C
  intro u r u1 H locs ls h1 h2 h3 h4
  have k9 := k u r u1 H locs ls h1 h2 h3 h4
  exact lv_aload X.1 X.2.1 hd (lv_at h4 j hj) k9
theorem s_dup {C : hCx} {cc : ByteArray} {own : String} {nL : Nat} {ret : Option FieldType} {mc ms pc pc2 : Nat} {lv : List (Nat × Value)} {st : List Value} {cells slots : Nat} {P : hM} (X : hOK C cc own nL ret) {va : Value} (hd : decode cc pc = .ok (.dup, 1)) (hp : pc + 1 = pc2) (hc : va.category = 1) (k : hSim C ret mc ms nL pc2 lv (va :: va :: st) cells slots P) : hSim C ret mc ms nL pc lv (va :: st) cells slots P := by
  subst hp
  obtain ⟨G, p, l, e, R, s, m, args, below, meth, c⟩ := C
  intro u r u1 H locs ls h1 h2 h3 h4
  have k9 := k u r u1 H locs ls h1 h2 h3 h4
  exact lv_dup X.1 X.2.1 hd hc k9
theorem s_pop {C : hCx} {cc : ByteArray} {own : String} {nL : Nat} {ret : Option FieldType} {mc ms pc pc2 : Nat} {lv : List (Nat × Value)} {st : List Value} {cells slots : Nat} {P : hM} (X : hOK C cc own nL ret) {va : Value} (hd : decode cc pc = .ok (.pop, 1)) (hp : pc + 1 = pc2) (hc : va.category = 1) (k : hSim C ret mc ms nL pc2 lv (st) cells slots P) : hSim C ret mc ms nL pc lv (va :: st) cells slots P := by
  subst hp
  obtain ⟨G, p, l, e, R, s, m, args, below, meth, c⟩ := C
  intro u r u1 H locs ls h1 h2 h3 h4
  have k9 := k u r u1 H locs ls h1 h2 h3 h4
  exact lv_pop X.1 X.2.1 hd hc k9
theorem s_dup2 {C : hCx} {cc : ByteArray} {own : String} {nL : Nat} {ret : Option FieldType} {mc ms pc pc2 : Nat} {lv : List (Nat × Value)} {st : List Value} {cells slots : Nat} {P : hM} (X : hOK C cc own nL ret) {va vb : Value} (hd : decode cc pc = .ok (.dup2, 1)) (hp : pc + 1 = pc2) (hc : va.category = 1) (hc2 : vb.category = 1) (k : hSim C ret mc ms nL pc2 lv (va :: vb :: va :: vb :: st) cells slots P) : hSim C ret mc ms nL pc lv (va :: vb :: st) cells slots P := by
  subst hp
  obtain ⟨G, p, l, e, R, s, m, args, below, meth, c⟩ := C
  intro u r u1 H locs ls h1 h2 h3 h4
  have k9 := k u r u1 H locs ls h1 h2 h3 h4
  exact lv_dup2_11 X.1 X.2.1 hd hc hc2 k9
theorem s_dupx1 {C : hCx} {cc : ByteArray} {own : String} {nL : Nat} {ret : Option FieldType} {mc ms pc pc2 : Nat} {lv : List (Nat × Value)} {st : List Value} {cells slots : Nat} {P : hM} (X : hOK C cc own nL ret) {va vb : Value} (hd : decode cc pc = .ok (.dup_x1, 1)) (hp : pc + 1 = pc2) (hc : va.category = 1) (hc2 : vb.category = 1) (k : hSim C ret mc ms nL pc2 lv (va :: vb :: va :: st) cells slots P) : hSim C ret mc ms nL pc lv (va :: vb :: st) cells slots P := by
  subst hp
  obtain ⟨G, p, l, e, R, s, m, args, below, meth, c⟩ := C
  intro u r u1 H locs ls h1 h2 h3 h4
  have k9 := k u r u1 H locs ls h1 h2 h3 h4
  exact lv_dup_x1 X.1 X.2.1 hd hc hc2 k9
theorem s_goto {C : hCx} {cc : ByteArray} {own : String} {nL : Nat} {ret : Option FieldType} {mc ms pc pc2 : Nat} {lv : List (Nat × Value)} {st : List Value} {cells slots : Nat} {P : hM} (X : hOK C cc own nL ret) {off : Int} (hd : decode cc pc = .ok (.goto off, 3)) (ht : (pc : Int) + off = (pc2 : Int)) (k : hSim C ret mc ms nL pc2 lv st cells slots P) : hSim C ret mc ms nL pc lv st cells slots P := by
  obtain ⟨G, p, l, e, R, s, m, args, below, meth, c⟩ := C
  intro u r u1 H locs ls h1 h2 h3 h4
  exact lv_goto X.1 X.2.1 hd ht (k u r u1 H locs ls h1 h2 h3 h4)
theorem s_ifeq {C : hCx} {cc : ByteArray} {own : String} {nL : Nat} {ret : Option FieldType} {mc ms pc pc2 tgt : Nat} {lv : List (Nat × Value)} {st : List Value} {cells slots : Nat} {Pt Pf : hM} (X : hOK C cc own nL ret) {off : Int} {x : Int} (hd : decode cc pc = .ok (.ifCond .eq off, 3)) (ht : (pc : Int) + off = (tgt : Int)) (hp : pc + 3 = pc2) (hx : inI x) (kt : hSim C ret mc ms nL tgt lv st cells slots Pt) (kf : hSim C ret mc ms nL pc2 lv st cells slots Pf) : hSim C ret mc ms nL pc lv (vI x :: st) cells slots (hif (x = 0) Pt Pf) := by
  subst hp
  obtain ⟨G, p, l, e, R, s, m, args, below, meth, c⟩ := C
  intro u r u1 H locs ls h1 h2 h3 h4
  refine lv_if_eq X.1 X.2.1 hd ht (fun q => ?_) (fun q => ?_)
  · exact kt u r u1 H locs ls (by rw [← h1]; exact (if_pos ((of_inj hx (inI_c 0 rfl)).mp q)).symm) h2 h3 h4
  · exact kf u r u1 H locs ls (by rw [← h1]; exact (if_neg (fun z => q ((of_inj hx (inI_c 0 rfl)).mpr z))).symm) h2 h3 h4
theorem s_iceq {C : hCx} {cc : ByteArray} {own : String} {nL : Nat} {ret : Option FieldType} {mc ms pc pc2 tgt : Nat} {lv : List (Nat × Value)} {st : List Value} {cells slots : Nat} {Pt Pf : hM} (X : hOK C cc own nL ret) {off : Int} {x y : Int} (hd : decode cc pc = .ok (.if_icmp .eq off, 3)) (ht : (pc : Int) + off = (tgt : Int)) (hp : pc + 3 = pc2) (hx : inI x) (hy : inI y) (kt : hSim C ret mc ms nL tgt lv st cells slots Pt) (kf : hSim C ret mc ms nL pc2 lv st cells slots Pf) : hSim C ret mc ms nL pc lv (vI y :: vI x :: st) cells slots (hif (x = y) Pt Pf) := by
  subst hp
  obtain ⟨G, p, l, e, R, s, m, args, below, meth, c⟩ := C
  intro u r u1 H locs ls h1 h2 h3 h4
  refine lv_icmp_eq X.1 X.2.1 hd ht (fun q => ?_) (fun q => ?_)
  · exact kt u r u1 H locs ls (by rw [← h1]; exact (if_pos ((of_inj hx hy).mp q)).symm) h2 h3 h4
  · exact kf u r u1 H locs ls (by rw [← h1]; exact (if_neg (fun z => q ((of_inj hx hy).mpr z))).symm) h2 h3 h4
theorem s_ifne {C : hCx} {cc : ByteArray} {own : String} {nL : Nat} {ret : Option FieldType} {mc ms pc pc2 tgt : Nat} {lv : List (Nat × Value)} {st : List Value} {cells slots : Nat} {Pt Pf : hM} (X : hOK C cc own nL ret) {off : Int} {x : Int} (hd : decode cc pc = .ok (.ifCond .ne off, 3)) (ht : (pc : Int) + off = (tgt : Int)) (hp : pc + 3 = pc2) (hx : inI x) (kt : hSim C ret mc ms nL tgt lv st cells slots Pt) (kf : hSim C ret mc ms nL pc2 lv st cells slots Pf) : hSim C ret mc ms nL pc lv (vI x :: st) cells slots (hif (x ≠ 0) Pt Pf) := by
  subst hp
  obtain ⟨G, p, l, e, R, s, m, args, below, meth, c⟩ := C
  intro u r u1 H locs ls h1 h2 h3 h4
  refine lv_if_ne X.1 X.2.1 hd ht (fun q => ?_) (fun q => ?_)
  · exact kt u r u1 H locs ls (by rw [← h1]; exact (if_pos ((not_congr (of_inj hx (inI_c 0 rfl))).mp q)).symm) h2 h3 h4
  · exact kf u r u1 H locs ls (by rw [← h1]; exact (if_neg (fun z => z ((of_inj hx (inI_c 0 rfl)).mp q))).symm) h2 h3 h4
theorem s_icne {C : hCx} {cc : ByteArray} {own : String} {nL : Nat} {ret : Option FieldType} {mc ms pc pc2 tgt : Nat} {lv : List (Nat × Value)} {st : List Value} {cells slots : Nat} {Pt Pf : hM} (X : hOK C cc own nL ret) {off : Int} {x y : Int} (hd : decode cc pc = .ok (.if_icmp .ne off, 3)) (ht : (pc : Int) + off = (tgt : Int)) (hp : pc + 3 = pc2) (hx : inI x) (hy : inI y) (kt : hSim C ret mc ms nL tgt lv st cells slots Pt) (kf : hSim C ret mc ms nL pc2 lv st cells slots Pf) : hSim C ret mc ms nL pc lv (vI y :: vI x :: st) cells slots (hif (x ≠ y) Pt Pf) := by
  subst hp
  obtain ⟨G, p, l, e, R, s, m, args, below, meth, c⟩ := C
  intro u r u1 H locs ls h1 h2 h3 h4
  refine lv_icmp_ne X.1 X.2.1 hd ht (fun q => ?_) (fun q => ?_)
  · exact kt u r u1 H locs ls (by rw [← h1]; exact (if_pos ((not_congr (of_inj hx hy)).mp q)).symm) h2 h3 h4
  · exact kf u r u1 H locs ls (by rw [← h1]; exact (if_neg (fun z => z ((of_inj hx hy).mp q))).symm) h2 h3 h4
theorem s_iflt {C : hCx} {cc : ByteArray} {own : String} {nL : Nat} {ret : Option FieldType} {mc ms pc pc2 tgt : Nat} {lv : List (Nat × Value)} {st : List Value} {cells slots : Nat} {Pt Pf : hM} (X : hOK C cc own nL ret) {off : Int} {x : Int} (hd : decode cc pc = .ok (.ifCond .lt off, 3)) (ht : (pc : Int) + off = (tgt : Int)) (hp : pc + 3 = pc2) (hx : inI x) (kt : hSim C ret mc ms nL tgt lv st cells slots Pt) (kf : hSim C ret mc ms nL pc2 lv st cells slots Pf) : hSim C ret mc ms nL pc lv (vI x :: st) cells slots (hif (x < 0) Pt Pf) := by
  subst hp
  obtain ⟨G, p, l, e, R, s, m, args, below, meth, c⟩ := C
  intro u r u1 H locs ls h1 h2 h3 h4
  refine lv_if_lt X.1 X.2.1 hd ht (fun q => ?_) (fun q => ?_)
  · exact kt u r u1 H locs ls (by rw [← h1]; exact (if_pos ((of_lt hx (inI_c 0 rfl)).mp q)).symm) h2 h3 h4
  · exact kf u r u1 H locs ls (by rw [← h1]; exact (if_neg (fun z => q ((of_lt hx (inI_c 0 rfl)).mpr z))).symm) h2 h3 h4
theorem s_iclt {C : hCx} {cc : ByteArray} {own : String} {nL : Nat} {ret : Option FieldType} {mc ms pc pc2 tgt : Nat} {lv : List (Nat × Value)} {st : List Value} {cells slots : Nat} {Pt Pf : hM} (X : hOK C cc own nL ret) {off : Int} {x y : Int} (hd : decode cc pc = .ok (.if_icmp .lt off, 3)) (ht : (pc : Int) + off = (tgt : Int)) (hp : pc + 3 = pc2) (hx : inI x) (hy : inI y) (kt : hSim C ret mc ms nL tgt lv st cells slots Pt) (kf : hSim C ret mc ms nL pc2 lv st cells slots Pf) : hSim C ret mc ms nL pc lv (vI y :: vI x :: st) cells slots (hif (x < y) Pt Pf) := by
  subst hp
  obtain ⟨G, p, l, e, R, s, m, args, below, meth, c⟩ := C
  intro u r u1 H locs ls h1 h2 h3 h4
  refine lv_icmp_lt X.1 X.2.1 hd ht (fun q => ?_) (fun q => ?_)
  · exact kt u r u1 H locs ls (by rw [← h1]; exact (if_pos ((of_lt hx hy).mp q)).symm) h2 h3 h4
  · exact kf u r u1 H locs ls (by rw [← h1]; exact (if_neg (fun z => q ((of_lt hx hy).mpr z))).symm) h2 h3 h4
theorem s_ifge {C : hCx} {cc : ByteArray} {own : String} {nL : Nat} {ret : Option FieldType} {mc ms pc pc2 tgt : Nat} {lv : List (Nat × Value)} {st : List Value} {cells slots : Nat} {Pt Pf : hM} (X : hOK C cc own nL ret) {off : Int} {x : Int} (hd : decode cc pc = .ok (.ifCond .ge off, 3)) (ht : (pc : Int) + off = (tgt : Int)) (hp : pc + 3 = pc2) (hx : inI x) (kt : hSim C ret mc ms nL tgt lv st cells slots Pt) (kf : hSim C ret mc ms nL pc2 lv st cells slots Pf) : hSim C ret mc ms nL pc lv (vI x :: st) cells slots (hif (x ≥ 0) Pt Pf) := by
  subst hp
  obtain ⟨G, p, l, e, R, s, m, args, below, meth, c⟩ := C
  intro u r u1 H locs ls h1 h2 h3 h4
  refine lv_if_ge X.1 X.2.1 hd ht (fun q => ?_) (fun q => ?_)
  · exact kt u r u1 H locs ls (by rw [← h1]; exact (if_pos ((of_le (inI_c 0 rfl) hx).mp q)).symm) h2 h3 h4
  · exact kf u r u1 H locs ls (by rw [← h1]; exact (if_neg (fun z => q ((of_le (inI_c 0 rfl) hx).mpr z))).symm) h2 h3 h4
theorem s_icge {C : hCx} {cc : ByteArray} {own : String} {nL : Nat} {ret : Option FieldType} {mc ms pc pc2 tgt : Nat} {lv : List (Nat × Value)} {st : List Value} {cells slots : Nat} {Pt Pf : hM} (X : hOK C cc own nL ret) {off : Int} {x y : Int} (hd : decode cc pc = .ok (.if_icmp .ge off, 3)) (ht : (pc : Int) + off = (tgt : Int)) (hp : pc + 3 = pc2) (hx : inI x) (hy : inI y) (kt : hSim C ret mc ms nL tgt lv st cells slots Pt) (kf : hSim C ret mc ms nL pc2 lv st cells slots Pf) : hSim C ret mc ms nL pc lv (vI y :: vI x :: st) cells slots (hif (x ≥ y) Pt Pf) := by
  subst hp
  obtain ⟨G, p, l, e, R, s, m, args, below, meth, c⟩ := C
  intro u r u1 H locs ls h1 h2 h3 h4
  refine lv_icmp_ge X.1 X.2.1 hd ht (fun q => ?_) (fun q => ?_)
  · exact kt u r u1 H locs ls (by rw [← h1]; exact (if_pos ((of_le hy hx).mp q)).symm) h2 h3 h4
  · exact kf u r u1 H locs ls (by rw [← h1]; exact (if_neg (fun z => q ((of_le hy hx).mpr z))).symm) h2 h3 h4
theorem s_ifgt {C : hCx} {cc : ByteArray} {own : String} {nL : Nat} {ret : Option FieldType} {mc ms pc pc2 tgt : Nat} {lv : List (Nat × Value)} {st : List Value} {cells slots : Nat} {Pt Pf : hM} (X : hOK C cc own nL ret) {off : Int} {x : Int} (hd : decode cc pc = .ok (.ifCond .gt off, 3)) (ht : (pc : Int) + off = (tgt : Int)) (hp : pc + 3 = pc2) (hx : inI x) (kt : hSim C ret mc ms nL tgt lv st cells slots Pt) (kf : hSim C ret mc ms nL pc2 lv st cells slots Pf) : hSim C ret mc ms nL pc lv (vI x :: st) cells slots (hif (x > 0) Pt Pf) := by
  subst hp
  obtain ⟨G, p, l, e, R, s, m, args, below, meth, c⟩ := C
  intro u r u1 H locs ls h1 h2 h3 h4
  refine lv_if_gt X.1 X.2.1 hd ht (fun q => ?_) (fun q => ?_)
  · exact kt u r u1 H locs ls (by rw [← h1]; exact (if_pos ((of_lt (inI_c 0 rfl) hx).mp q)).symm) h2 h3 h4
  · exact kf u r u1 H locs ls (by rw [← h1]; exact (if_neg (fun z => q ((of_lt (inI_c 0 rfl) hx).mpr z))).symm) h2 h3 h4
theorem s_icgt {C : hCx} {cc : ByteArray} {own : String} {nL : Nat} {ret : Option FieldType} {mc ms pc pc2 tgt : Nat} {lv : List (Nat × Value)} {st : List Value} {cells slots : Nat} {Pt Pf : hM} (X : hOK C cc own nL ret) {off : Int} {x y : Int} (hd : decode cc pc = .ok (.if_icmp .gt off, 3)) (ht : (pc : Int) + off = (tgt : Int)) (hp : pc + 3 = pc2) (hx : inI x) (hy : inI y) (kt : hSim C ret mc ms nL tgt lv st cells slots Pt) (kf : hSim C ret mc ms nL pc2 lv st cells slots Pf) : hSim C ret mc ms nL pc lv (vI y :: vI x :: st) cells slots (hif (x > y) Pt Pf) := by
  subst hp
  obtain ⟨G, p, l, e, R, s, m, args, below, meth, c⟩ := C
  intro u r u1 H locs ls h1 h2 h3 h4
  refine lv_icmp_gt X.1 X.2.1 hd ht (fun q => ?_) (fun q => ?_)
  · exact kt u r u1 H locs ls (by rw [← h1]; exact (if_pos ((of_lt hy hx).mp q)).symm) h2 h3 h4
  · exact kf u r u1 H locs ls (by rw [← h1]; exact (if_neg (fun z => q ((of_lt hy hx).mpr z))).symm) h2 h3 h4
theorem s_ifle {C : hCx} {cc : ByteArray} {own : String} {nL : Nat} {ret : Option FieldType} {mc ms pc pc2 tgt : Nat} {lv : List (Nat × Value)} {st : List Value} {cells slots : Nat} {Pt Pf : hM} (X : hOK C cc own nL ret) {off : Int} {x : Int} (hd : decode cc pc = .ok (.ifCond .le off, 3)) (ht : (pc : Int) + off = (tgt : Int)) (hp : pc + 3 = pc2) (hx : inI x) (kt : hSim C ret mc ms nL tgt lv st cells slots Pt) (kf : hSim C ret mc ms nL pc2 lv st cells slots Pf) : hSim C ret mc ms nL pc lv (vI x :: st) cells slots (hif (x ≤ 0) Pt Pf) := by
  subst hp
  obtain ⟨G, p, l, e, R, s, m, args, below, meth, c⟩ := C
  intro u r u1 H locs ls h1 h2 h3 h4
  refine lv_if_le X.1 X.2.1 hd ht (fun q => ?_) (fun q => ?_)
  · exact kt u r u1 H locs ls (by rw [← h1]; exact (if_pos ((of_le hx (inI_c 0 rfl)).mp q)).symm) h2 h3 h4
  · exact kf u r u1 H locs ls (by rw [← h1]; exact (if_neg (fun z => q ((of_le hx (inI_c 0 rfl)).mpr z))).symm) h2 h3 h4
theorem s_icle {C : hCx} {cc : ByteArray} {own : String} {nL : Nat} {ret : Option FieldType} {mc ms pc pc2 tgt : Nat} {lv : List (Nat × Value)} {st : List Value} {cells slots : Nat} {Pt Pf : hM} (X : hOK C cc own nL ret) {off : Int} {x y : Int} (hd : decode cc pc = .ok (.if_icmp .le off, 3)) (ht : (pc : Int) + off = (tgt : Int)) (hp : pc + 3 = pc2) (hx : inI x) (hy : inI y) (kt : hSim C ret mc ms nL tgt lv st cells slots Pt) (kf : hSim C ret mc ms nL pc2 lv st cells slots Pf) : hSim C ret mc ms nL pc lv (vI y :: vI x :: st) cells slots (hif (x ≤ y) Pt Pf) := by
  subst hp
  obtain ⟨G, p, l, e, R, s, m, args, below, meth, c⟩ := C
  intro u r u1 H locs ls h1 h2 h3 h4
  refine lv_icmp_le X.1 X.2.1 hd ht (fun q => ?_) (fun q => ?_)
  · exact kt u r u1 H locs ls (by rw [← h1]; exact (if_pos ((of_le hx hy).mp q)).symm) h2 h3 h4
  · exact kf u r u1 H locs ls (by rw [← h1]; exact (if_neg (fun z => q ((of_le hx hy).mpr z))).symm) h2 h3 h4
