/-! switches -/
theorem s_tsin {C : hCx} {cc : ByteArray} {own : String} {nL : Nat} {ret : Option FieldType} {mc ms pc tgt : Nat} {lv : List (Nat × Value)} {st : List Value} {cells slots len : Nat} {P : hM} {dflt lo hi off x : Int} {offs : Array Int} (z : Int) (X : hOK C cc own nL ret) (hd : decode cc pc = .ok (.tableswitch dflt lo hi offs, len)) (hx : x = z) (hz : inI z) (h1 : ¬ z < lo) (h2 : ¬ hi < z) (ho : offs[(z - lo).toNat]? = some off) (ht : (pc : Int) + off = (tgt : Int)) (k : hSim C ret mc ms nL tgt lv st cells slots P) : hSim C ret mc ms nL pc lv (vI x :: st) cells slots P := by
  subst hx
  obtain ⟨G, p, l, e, R, s, m, args, below, meth, c⟩ := C
  intro u r u1 H locs ls g1 g2 g3 g4
  exact lv_tableIn X.1 X.2.1 hd (by rw [ofI_to hz]; exact h1) (by rw [ofI_to hz]; exact h2) (by rw [ofI_to hz]; exact ho) ht (k u r u1 H locs ls g1 g2 g3 g4)
theorem s_tsout {C : hCx} {cc : ByteArray} {own : String} {nL : Nat} {ret : Option FieldType} {mc ms pc tgt : Nat} {lv : List (Nat × Value)} {st : List Value} {cells slots len : Nat} {P : hM} {dflt lo hi x : Int} {offs : Array Int} (X : hOK C cc own nL ret) (hd : decode cc pc = .ok (.tableswitch dflt lo hi offs, len)) (hx : inI x) (h1 : x < lo ∨ hi < x) (ht : (pc : Int) + dflt = (tgt : Int)) (k : hSim C ret mc ms nL tgt lv st cells slots P) : hSim C ret mc ms nL pc lv (vI x :: st) cells slots P := by
  obtain ⟨G, p, l, e, R, s, m, args, below, meth, c⟩ := C
  intro u r u1 H locs ls g1 g2 g3 g4
  exact lv_tableOut X.1 X.2.1 hd (by rw [ofI_to hx]; exact h1) ht (k u r u1 H locs ls g1 g2 g3 g4)
theorem s_lsw {C : hCx} {cc : ByteArray} {own : String} {nL : Nat} {ret : Option FieldType} {mc ms pc tgt : Nat} {lv : List (Nat × Value)} {st : List Value} {cells slots len : Nat} {P : hM} {dflt off x : Int} {ps : Array (Int × Int)} (X : hOK C cc own nL ret) (hd : decode cc pc = .ok (.lookupswitch dflt ps, len)) (hx : inI x) (hp : (ps.toList.zip (ps.toList.drop 1)).all (fun (a, next) => a.1 < next.1) = true) (ho : Op.lookupswitch.offset ps.toList dflt x = off) (ht : (pc : Int) + off = (tgt : Int)) (k : hSim C ret mc ms nL tgt lv st cells slots P) : hSim C ret mc ms nL pc lv (vI x :: st) cells slots P := by
  obtain ⟨G, p, l, e, R, s, m, args, below, meth, c⟩ := C
  intro u r u1 H locs ls g1 g2 g3 g4
  exact lv_lookup X.1 X.2.1 hd hp (by rw [ofI_to hx]; exact ho) ht (k u r u1 H locs ls g1 g2 g3 g4)
theorem lsw_hit {a o d x : Int} {r : List (Int × Int)} (h : x = a) : Op.lookupswitch.offset ((a, o) :: r) d x = o := by
  rw [Op.lookupswitch.offset_cons, if_pos h.symm]
theorem lsw_miss {a o d x q : Int} {r : List (Int × Int)} (h : ¬ x = a) (k : Op.lookupswitch.offset r d x = q) : Op.lookupswitch.offset ((a, o) :: r) d x = q := by
  rw [Op.lookupswitch.offset_cons, if_neg (fun z => h z.symm)]; exact k
theorem lsw_nil {d x : Int} : Op.lookupswitch.offset [] d x = d := rfl
/-! System.arraycopy between int rows -/
section HCP
variable {p : Program} {l : Launch} {e : Env} {R : Room} {s : State} {m : MethodId} {args : Array Value} {below : List Frame} {meth : Method} {c : Code} {H : Heap} {locs : List Loc} {cells slots : Nat} {Q : State → Prop}
variable {cc : ByteArray} {pc : Nat} {ls : Array Slot} {rest : List Value}
theorem hg_copy (hexec : p.tables.exec = Jvm.exec) (hb : c.code = cc) (hml : c.maxLocals = ls.size) {own : String} {index : Nat} (hown : s.vm.findClass own = some m.cls) (hlink : (Cond.methodLink own index arraycopyName).before args s = true) (hnat : (Cond.native arraycopyName).before args s = true) (hstat : (Cond.static arraycopyName).before args s = true) (hini : (Cond.initialized "java/lang/System").before args s = true)
    {a0 a n0 n1 : Nat} {c0 : ClassId} {f g : Nat → Int32} (hc0 : H[a0]? = some (vp_cell c0 (n0, .inl f))) (hc1 : H[a]? = some (vp_cell c0 (n1, .inl g))) (hAr : ArrOfT s c0 .int)
    {sp dp n : Int32} (h1 : ¬ sp < 0) (h2 : ¬ dp < 0) (h3 : ¬ n < 0) (h4 : sp.toNatClampNeg + n.toNatClampNeg ≤ n0) (h5 : dp.toNatClampNeg + n.toNatClampNeg ≤ n1)
    (hframes : 1 ≤ R.frames) (hlocals : (rest.map fun v => v.category).sum + (nativeFrameWords "java/lang/System" "arraycopy" 5 + 11) ≤ R.locals) (hdg : decode cc pc = .ok (.invokestatic index, 3))
    (kk : ∀ (H1 : Heap) (locs1 : List Loc), H1[a]? = some (vp_cell c0 (n1, .inl (va_cpy f g sp.toNatClampNeg dp.toNatClampNeg n.toNatClampNeg))) → H1.size = H.size → (∀ q, q ≠ a → H1[q]? = H[q]?) → (∀ q ∈ locs1, q ∈ locs ∨ q.base = a) → W p l e R s m args below meth c H1 locs1 cells slots Q (F0 m (pc + 3) ls rest)) : W p l e R s m args below meth c H locs cells slots Q (F0 m pc ls (.int n :: .int dp :: .ref a :: .int sp :: .ref a0 :: rest)) := by
  have nn : ∀ z : Int32, ¬ z < 0 → z.toInt = (z.toNatClampNeg : Int) := by
    intro z hz
    have hz0 : (0 : Int) ≤ z.toInt := by
      have := Int32.not_lt.mp hz
      simpa using Int32.le_iff_toInt_le.mp this
    show z.toInt = ((z.toInt.toNat : Nat) : Int)
    omega
  intro T hT X
  obtain ⟨-, k0, hk0, cm0, hkk0⟩ := hAr n0 (fun j => .int (f j))
  obtain ⟨-, k1, hk1, cm1, hkk1⟩ := hAr n1 (fun j => .int (g j))
  obtain ⟨vm', X', step⟩ := X.arraycopy hexec hown hlink hnat hstat hini (src := a0) (dst := a) (cs := vp_cell c0 (n0, .inl f)) (cd := vp_cell c0 (n1, .inl g)) (srcPos := sp) (destPos := dp) (n := n) (by rw [hT]; exact hc0) (by rw [hT]; exact hc1)
    (fun _ h => by cases h) (fun _ h => by cases h) (fun h => by cases h) (fun h => by cases h) hk0 hk1 hkk0 hkk1 (by rfl) h1 h2 h3
    (by rw [nn sp h1, nn n h3]; show ¬ _ > ((arrV c0 n0 (fun j => .int (f j))).slots.size : Int); rw [arrV_size]; omega)
    (by rw [nn dp h2, nn n h3]; show ¬ _ > ((arrV c0 n1 (fun j => .int (g j))).slots.size : Int); rw [arrV_size]; omega)
    (fun vm₁ _ i hi => by
      have e : (vp_cell c0 (n0, .inl f)).slots.getD (sp.toNatClampNeg + i) .null = .int (f (sp.toNatClampNeg + i)) := by
        show (arrV c0 n0 (fun j => .int (f j))).slots.getD _ _ = _
        rw [Array.getD_eq_getD_getElem?, arrV_read _ _ (by omega)]
        rfl
      refine ⟨?_, ?_⟩
      · rw [e]
        rfl
      · rw [e]
        exact trivial)
    (g := F0 m pc ls (.int n :: .int dp :: .ref a :: .int sp :: .ref a0 :: rest)) rfl (by rw [hml]) (rest := rest) rfl (by rw [hb]; exact hdg) hframes (by show 2 * 0 + _ + _ ≤ _; omega)
  have e1 : copied (vp_cell c0 (n0, .inl f)) (vp_cell c0 (n1, .inl g)) sp dp n = vp_cell c0 (n1, .inl (va_cpy f g sp.toNatClampNeg dp.toNatClampNeg n.toNatClampNeg)) := va_copied (fun z => .int z) c0 c0 f g h4
  rw [e1] at X' step
  have hl : a < H.size := (Array.getElem?_eq_some_iff.mp hc1).1
  have hheap : ((T.setVm vm').setCell a (vp_cell c0 (n1, .inl (va_cpy f g sp.toNatClampNeg dp.toNatClampNeg n.toNatClampNeg)))).heap = H.setIfInBounds a (vp_cell c0 (n1, .inl (va_cpy f g sp.toNatClampNeg dp.toNatClampNeg n.toNatClampNeg))) := by rw [← hT]; rfl
  obtain ⟨t, a1, b1⟩ := kk _ _ (show (H.setIfInBounds a _)[a]? = some _ by simp [Array.getElem?_setIfInBounds, hl]) (by simp) (fun q hq => by simp [Array.getElem?_setIfInBounds, Ne.symm hq]) (fun q hq => by
      rcases List.mem_append.mp hq with h | h
      · exact Or.inl h
      · obtain ⟨z, -, hz⟩ := List.mem_map.mp h
        rw [← hz]
        exact Or.inr rfl) _ hheap X'
  exact ⟨t, step t a1, b1⟩
end HCP
theorem s_copy {C : hCx} {cc : ByteArray} {own : String} {nL : Nat} {ret : Option FieldType} {mc ms pc pc2 : Nat} {lv : List (Nat × Value)} {st : List Value} {cells slots idx a b : Nat} {x y n : Int} {P : hM} (X : hOK C cc own nL ret) (hd : decode cc pc = .ok (.invokestatic idx, 3)) (hp : pc + 3 = pc2) (hl : Cond.methodLink own idx arraycopyName ∈ tG) (hnat : Cond.native arraycopyName ∈ tG) (hsta : Cond.static arraycopyName ∈ tG) (hini : Cond.initialized "java/lang/System" ∈ tG) (hx : inI x) (hy : inI y) (hn : inI n) (hf : 1 ≤ C.2.2.2.2.1.frames) (hlo : 50 ≤ C.2.2.2.2.1.locals) (hst : (st.map fun v => v.category).sum ≤ 8) (k : hSim C ret mc ms nL pc2 lv st cells slots P) : hSim C ret mc ms nL pc lv (vI n :: vI y :: vR C.1.1 b :: vI x :: vR C.1.1 a :: st) cells slots (hcpy a x b y n P) := by
  subst hp
  obtain ⟨G, p, l, e, R, s, m, args, below, meth, c⟩ := C
  intro u r u1 H locs ls h1 h2 h3 h4
  by_cases ha : hok u a 20 ∧ hok u b 20 ∧ 0 ≤ x ∧ 0 ≤ y ∧ 0 ≤ n ∧ x + n ≤ (hN u a : Int) ∧ y + n ≤ (hN u b : Int)
  · rw [show hcpy a x b y n P u = P (hcopy u a x.toNat b y.toNat n.toNat) from if_pos ha] at h1
    obtain ⟨ha, hb, z1, z2, z3, z4, z5⟩ := ha
    obtain ⟨g1, g2, g3, -⟩ := hg_row h2 ha (by decide)
    obtain ⟨f1, f2, f3, -⟩ := hg_row h2 hb (by decide)
    have hA1 : ArrOfT s (G.2.2.2.1 20) .int := (X.2.2.2.2.2.1.2.1 20 (by decide) (by decide)).1
    have x5 := X.2.2.2.2.1
    show W p l e R s m args below meth c H locs cells slots (hMQ (G, p, l, e, R, s, m, args, below, meth, c) ret mc ms r u1) (F0 m pc ls (vI n :: vI y :: vR G.1 b :: vI x :: vR G.1 a :: st))
    rw [show vR G.1 a = .ref (G.1 + a) from if_neg (by have := ha.1; omega), show vR G.1 b = .ref (G.1 + b) from if_neg (by have := hb.1; omega)]
    have cx := inI_clamp z1 hx
    have cy := inI_clamp z2 hy
    have cn := inI_clamp z3 hn
    have nl : ∀ w : Int, inI w → 0 ≤ w → ¬ Int32.ofInt w < 0 := fun w hw h0 z => by have := (of_lt hw (inI_c 0 rfl)).mp z; omega
    have hlo2 : 50 ≤ R.locals := hlo
    have e10 : (st.map fun v => v.category).sum + (nativeFrameWords "java/lang/System" "arraycopy" 5 + 11) ≤ R.locals := by
      have e9 : nativeFrameWords "java/lang/System" "arraycopy" 5 ≤ 25 := by decide +kernel
      omega
    refine hg_copy (f := fun i => Int32.ofInt (hV u a i)) (g := fun i => Int32.ofInt (hV u b i)) (n0 := hN u a) (n1 := hN u b) X.1 X.2.1 (by rw [X.2.2.1]; exact h4.1.symm) X.2.2.2.1 (x5 _ hl) (x5 _ hnat) (x5 _ hsta) (x5 _ hini) g1 f1 hA1 (nl x hx z1) (nl y hy z2) (nl n hn z3) (by rw [cx, cn]; omega) (by rw [cy, cn]; omega) hf e10 hd (fun H2 locs2 e1 e2 e3 e4 => ?_)
    refine k _ r u1 H2 locs2 ls h1 (hR_set h2 rfl ⟨hb.1, hb.2.1⟩ e2 e3 (fun q hq => ⟨rfl, rfl, ?_, rfl⟩) ⟨fun z => ?_, fun _ => ?_⟩) (fun q hq => ?_) h4
    · funext j
      exact if_neg (fun z => hq z.1)
    · have : hK u b < 20 := z
      rw [hb.2.2] at this
      omega
    · have hkb : hK u b = 20 := hb.2.2
      refine ⟨⟨by show hK u b < 27; omega, f3⟩, ?_, fun j hj => ?_⟩
      · show H2[G.1 + b]? = some (arrV (G.2.2.2.1 (hK u b)) (hN u b) _)
        rw [e1, hkb]
        rw [vp_cell_i]
        congr 2
        funext j
        show Value.int (va_cpy (fun i => Int32.ofInt (hV u a i)) (fun i => Int32.ofInt (hV u b i)) _ _ _ j) = hval (etOf (hK u b)) G.1 (if b = b ∧ y.toNat ≤ j ∧ j < y.toNat + n.toNat then hV u a (x.toNat + (j - y.toNat)) else hV u b j) _
        rw [hkb, cx, cy, cn]
        unfold va_cpy
        by_cases hj : y.toNat ≤ j ∧ j < y.toNat + n.toNat
        · rw [if_pos hj, if_pos ⟨rfl, hj⟩]; rfl
        · rw [if_neg hj, if_neg (fun z => hj z.2)]; rfl
      · show hin (etOf (hK u b)) (if b = b ∧ y.toNat ≤ j ∧ j < y.toNat + n.toNat then hV u a (x.toNat + (j - y.toNat)) else hV u b j)
        rw [hkb]
        by_cases hj2 : y.toNat ≤ j ∧ j < y.toNat + n.toNat
        · rw [if_pos ⟨rfl, hj2⟩]; exact g2 _ (by omega)
        · rw [if_neg (fun z => hj2 z.2)]; exact f2 j hj
    · rcases e4 q hq with z | z
      · exact h3 q z
      · rw [z]; show G.1 < G.1 + b; have := hb.1; omega
  · rw [show hcpy a x b y n P u = none from if_neg ha] at h1
    cases h1
