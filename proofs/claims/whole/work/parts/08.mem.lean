theorem lrem_eq_mod (x y : Int64) : x - (x / y) * y = x % y := by
  apply Int64.toInt_inj.mp
  have h1 := Int64.le_toInt (x % y)
  have h2 := Int64.toInt_lt (x % y)
  rw [Int64.toInt_sub, Int64.toInt_mul, Int64.toInt_div, Int.bmod_mul_bmod, Int.sub_bmod_bmod, Int.mul_comm (x.toInt.tdiv y.toInt), ← Int.tmod_def, ← Int64.toInt_mod]
  exact Int.bmod_eq_of_le_mul_two (by omega) (by omega)
/-! locals -/
theorem cat1_I {i : Nat} {x : Int} : ∀ q ∈ [(i, vI x)], q.2.category = 1 := fun q h => by rw [List.mem_singleton.mp h]; rfl
theorem cat1_S {i x : Nat} : ∀ q ∈ [(i, Value.ref x)], q.2.category = 1 := fun q h => by rw [List.mem_singleton.mp h]; rfl
theorem vR_cat (B x : Nat) : (vR B x).category = 1 := by
  unfold vR
  by_cases h : x = 0
  · rw [if_pos h]; rfl
  · rw [if_neg h]; rfl
theorem cat1_R {i B x : Nat} : ∀ q ∈ [(i, vR B x)], q.2.category = 1 := fun q h => by rw [List.mem_singleton.mp h]; exact vR_cat B x
theorem cat1_N : ∀ q ∈ ([] : List (Nat × Value)), q.2.category = 1 := fun q h => absurd h List.not_mem_nil
theorem lv_fewer {ls : Array Slot} {nL : Nat} {l l2 : List (Nat × Value)} (h : lv_has ls nL l) (hs : ∀ q ∈ l2, q ∈ l) : lv_has ls nL l2 := ⟨h.1, h.2.1, fun q hq => h.2.2 q (hs q hq)⟩
theorem lv_put1 {ls : Array Slot} {nL i : Nat} {l l1 l2 : List (Nat × Value)} {v : Value} (h : lv_has ls nL l) (hi : i < nL) (hv : v.category = 1) (hl : l.filter (fun q => !(q.1 == i)) = l1) (hf : l.filter (fun q => q.1 + 1 == i) = l2) (hc : ∀ q ∈ l2, q.2.category = 1) :
    ∀ q ∈ (i, v) :: l1, q ∈ (i, v) :: l.filter (fun q => !(q.1 == i) && !(q.1 + 1 == i && q.2.category == 2)) := by
  intro q hq
  rcases List.mem_cons.mp hq with e | e
  · rw [e]; exact List.mem_cons_self
  · rw [← hl] at e
    obtain ⟨e1, e2⟩ := List.mem_filter.mp e
    refine List.mem_cons_of_mem _ (List.mem_filter.mpr ⟨e1, ?_⟩)
    simp only [e2, Bool.true_and]
    by_cases h1 : (q.1 + 1 == i) = true
    · have := hc q (by rw [← hf]; exact List.mem_filter.mpr ⟨e1, h1⟩)
      simp [this]
    · simp [h1]
theorem lv_put2 {ls : Array Slot} {nL i : Nat} {l l1 l2 : List (Nat × Value)} {v : Value} (hl : l.filter (fun q => !(q.1 == i) && !(q.1 == i + 1)) = l1) (hf : l.filter (fun q => q.1 + 1 == i) = l2) (hc : ∀ q ∈ l2, q.2.category = 1) :
    ∀ q ∈ (i, v) :: l1, q ∈ (i, v) :: l.filter (fun q => !(q.1 == i) && (!(q.1 == i + 1) && !(q.1 + 1 == i && q.2.category == 2))) := by
  intro q hq
  rcases List.mem_cons.mp hq with e | e
  · rw [e]; exact List.mem_cons_self
  · rw [← hl] at e
    obtain ⟨e1, e2⟩ := List.mem_filter.mp e
    rw [Bool.and_eq_true] at e2
    refine List.mem_cons_of_mem _ (List.mem_filter.mpr ⟨e1, ?_⟩)
    simp only [e2.1, e2.2, Bool.true_and]
    by_cases h1 : (q.1 + 1 == i) = true
    · have := hc q (by rw [← hf]; exact List.mem_filter.mpr ⟨e1, h1⟩)
      simp [this]
    · simp [h1]
theorem s_sub {C : hCx} {nL : Nat} {ret : Option FieldType} {mc ms pc : Nat} {lv lv2 : List (Nat × Value)} {st : List Value} {cells slots : Nat} {P : hM} (ks : List Nat) (hl : lv_pick lv ks = lv2) (k : hSim C ret mc ms nL pc lv2 st cells slots P) : hSim C ret mc ms nL pc lv st cells slots P :=
  fun u r u1 H locs ls h1 h2 h3 h4 => k u r u1 H locs ls h1 h2 h3 (lv_sub h4 ks hl)
theorem s_split {C : hCx} {nL : Nat} {ret : Option FieldType} {mc ms pc : Nat} {lv : List (Nat × Value)} {st : List Value} {cells slots : Nat} {c : Prop} [Decidable c] {Pt Pf : hM} (kt : c → hSim C ret mc ms nL pc lv st cells slots Pt) (kf : ¬ c → hSim C ret mc ms nL pc lv st cells slots Pf) : hSim C ret mc ms nL pc lv st cells slots (hif c Pt Pf) := by
  intro u r u1 H locs ls h1 h2 h3 h4
  by_cases h : c
  · exact kt h u r u1 H locs ls (by rw [← h1]; exact (if_pos h).symm) h2 h3 h4
  · exact kf h u r u1 H locs ls (by rw [← h1]; exact (if_neg h).symm) h2 h3 h4
theorem s_none {C : hCx} {nL : Nat} {ret : Option FieldType} {mc ms pc : Nat} {lv : List (Nat × Value)} {st : List Value} {cells slots : Nat} {P : hM} (h : ∀ u, P u = none) : hSim C ret mc ms nL pc lv st cells slots P := fun u r u1 H locs ls h1 => by rw [h u] at h1; cases h1
theorem s_istore_n {C : hCx} {cc : ByteArray} {own : String} {nL : Nat} {ret : Option FieldType} {mc ms pc pc2 : Nat} {lv : List (Nat × Value)} {st : List Value} {cells slots : Nat} {k0 : Fin 4} {x : Int} {f : Int → hM} {lv1 l1 : List (Nat × Value)} (X : hOK C cc own nL ret) (hd : decode cc pc = .ok (.istore_n k0, 1)) (hp : pc + 1 = pc2) (hn : k0.val < nL) (hl : lv.filter (fun q => !(q.1 == k0.val)) = lv1) (hf : lv.filter (fun q => q.1 + 1 == k0.val) = l1) (hc : ∀ q ∈ l1, q.2.category = 1) (hx : inI x) (k : ∀ v, inI v → hSim C ret mc ms nL pc2 ((k0.val, vI v) :: lv1) st cells slots (f v)) : hSim C ret mc ms nL pc lv (vI x :: st) cells slots (hlet x f) := by
  subst hp
  obtain ⟨G, p, l, e, R, s, m, args, below, meth, c⟩ := C
  intro u r u1 H locs ls h1 h2 h3 h4
  refine lv_istore_n (lv' := (k0.val, vI x) :: lv.filter (fun q => !(q.1 == k0.val) && !(q.1 + 1 == k0.val && q.2.category == 2))) X.1 X.2.1 hd rfl h4 hn rfl (fun ls2 h5 => ?_)
  exact k x hx u r u1 H locs ls2 h1 h2 h3 (lv_fewer h5 (lv_put1 h4 hn rfl hl hf hc))
theorem s_lstore_n {C : hCx} {cc : ByteArray} {own : String} {nL : Nat} {ret : Option FieldType} {mc ms pc pc2 : Nat} {lv : List (Nat × Value)} {st : List Value} {cells slots : Nat} {k0 : Fin 4} {x : Int} {f : Int → hM} {lv1 l1 : List (Nat × Value)} (X : hOK C cc own nL ret) (hd : decode cc pc = .ok (.lstore_n k0, 1)) (hp : pc + 1 = pc2) (hn : k0.val + 1 < nL) (hl : lv.filter (fun q => !(q.1 == k0.val) && !(q.1 == k0.val + 1)) = lv1) (hf : lv.filter (fun q => q.1 + 1 == k0.val) = l1) (hc : ∀ q ∈ l1, q.2.category = 1) (hx : inL x) (k : ∀ v, inL v → hSim C ret mc ms nL pc2 ((k0.val, vL v) :: lv1) st cells slots (f v)) : hSim C ret mc ms nL pc lv (vL x :: st) cells slots (hlet x f) := by
  subst hp
  obtain ⟨G, p, l, e, R, s, m, args, below, meth, c⟩ := C
  intro u r u1 H locs ls h1 h2 h3 h4
  refine lv_lstore_n (lv' := (k0.val, vL x) :: lv.filter (fun q => !(q.1 == k0.val) && (!(q.1 == k0.val + 1) && !(q.1 + 1 == k0.val && q.2.category == 2)))) X.1 X.2.1 hd rfl h4 hn rfl (fun ls2 h5 => ?_)
  exact k x hx u r u1 H locs ls2 h1 h2 h3 (lv_fewer h5 (lv_put2 (ls := ls) (nL := nL) hl hf hc))
theorem s_astore_n {C : hCx} {cc : ByteArray} {own : String} {nL : Nat} {ret : Option FieldType} {mc ms pc pc2 : Nat} {lv : List (Nat × Value)} {st : List Value} {cells slots : Nat} {k0 : Fin 4} {B x : Nat} {P : hM} {lv1 l1 : List (Nat × Value)} (X : hOK C cc own nL ret) (hd : decode cc pc = .ok (.astore_n k0, 1)) (hp : pc + 1 = pc2) (hn : k0.val < nL) (hl : lv.filter (fun q => !(q.1 == k0.val)) = lv1) (hf : lv.filter (fun q => q.1 + 1 == k0.val) = l1) (hc : ∀ q ∈ l1, q.2.category = 1) (k : hSim C ret mc ms nL pc2 ((k0.val, vR B x) :: lv1) st cells slots P) : hSim C ret mc ms nL pc lv (vR B x :: st) cells slots P := by
  subst hp
  obtain ⟨G, p, l, e, R, s, m, args, below, meth, c⟩ := C
  intro u r u1 H locs ls h1 h2 h3 h4
  have kk : ∀ ls2, lv_has ls2 nL ((k0.val, vR B x) :: lv.filter (fun q => !(q.1 == k0.val) && !(q.1 + 1 == k0.val && q.2.category == 2))) → W p l e R s m args below meth c H locs cells slots (hMQ (G, p, l, e, R, s, m, args, below, meth, c) ret mc ms r u1) (F0 m (pc + 1) ls2 st) := fun ls2 h5 => k u r u1 H locs ls2 h1 h2 h3 (lv_fewer h5 (lv_put1 h4 hn (vR_cat B x) hl hf hc))
  show W p l e R s m args below meth c H locs cells slots (hMQ (G, p, l, e, R, s, m, args, below, meth, c) ret mc ms r u1) (F0 m pc ls (vR B x :: st))
  unfold vR at kk ⊢
  by_cases hx : x = 0
  · simp only [if_pos hx] at kk ⊢
    exact lv_astore_nN X.1 X.2.1 hd rfl h4 hn rfl kk
  · simp only [if_neg hx] at kk ⊢
    exact lv_astore_n X.1 X.2.1 hd rfl h4 hn rfl kk
theorem s_istore {C : hCx} {cc : ByteArray} {own : String} {nL : Nat} {ret : Option FieldType} {mc ms pc pc2 : Nat} {lv : List (Nat × Value)} {st : List Value} {cells slots : Nat} {i : Nat} {x : Int} {f : Int → hM} {lv1 l1 : List (Nat × Value)} (X : hOK C cc own nL ret) (hd : decode cc pc = .ok (.istore i, 2)) (hp : pc + 2 = pc2) (hn : i < nL) (hl : lv.filter (fun q => !(q.1 == i)) = lv1) (hf : lv.filter (fun q => q.1 + 1 == i) = l1) (hc : ∀ q ∈ l1, q.2.category = 1) (hx : inI x) (k : ∀ v, inI v → hSim C ret mc ms nL pc2 ((i, vI v) :: lv1) st cells slots (f v)) : hSim C ret mc ms nL pc lv (vI x :: st) cells slots (hlet x f) := by
  subst hp
  obtain ⟨G, p, l, e, R, s, m, args, below, meth, c⟩ := C
  intro u r u1 H locs ls h1 h2 h3 h4
  refine lv_istore (lv' := (i, vI x) :: lv.filter (fun q => !(q.1 == i) && !(q.1 + 1 == i && q.2.category == 2))) X.1 X.2.1 hd h4 hn rfl (fun ls2 h5 => ?_)
  exact k x hx u r u1 H locs ls2 h1 h2 h3 (lv_fewer h5 (lv_put1 h4 hn rfl hl hf hc))
theorem s_lstore {C : hCx} {cc : ByteArray} {own : String} {nL : Nat} {ret : Option FieldType} {mc ms pc pc2 : Nat} {lv : List (Nat × Value)} {st : List Value} {cells slots : Nat} {i : Nat} {x : Int} {f : Int → hM} {lv1 l1 : List (Nat × Value)} (X : hOK C cc own nL ret) (hd : decode cc pc = .ok (.lstore i, 2)) (hp : pc + 2 = pc2) (hn : i + 1 < nL) (hl : lv.filter (fun q => !(q.1 == i) && !(q.1 == i + 1)) = lv1) (hf : lv.filter (fun q => q.1 + 1 == i) = l1) (hc : ∀ q ∈ l1, q.2.category = 1) (hx : inL x) (k : ∀ v, inL v → hSim C ret mc ms nL pc2 ((i, vL v) :: lv1) st cells slots (f v)) : hSim C ret mc ms nL pc lv (vL x :: st) cells slots (hlet x f) := by
  subst hp
  obtain ⟨G, p, l, e, R, s, m, args, below, meth, c⟩ := C
  intro u r u1 H locs ls h1 h2 h3 h4
  refine lv_lstore (lv' := (i, vL x) :: lv.filter (fun q => !(q.1 == i) && (!(q.1 == i + 1) && !(q.1 + 1 == i && q.2.category == 2)))) X.1 X.2.1 hd h4 hn rfl (fun ls2 h5 => ?_)
  exact k x hx u r u1 H locs ls2 h1 h2 h3 (lv_fewer h5 (lv_put2 (ls := ls) (nL := nL) hl hf hc))
theorem s_astore {C : hCx} {cc : ByteArray} {own : String} {nL : Nat} {ret : Option FieldType} {mc ms pc pc2 : Nat} {lv : List (Nat × Value)} {st : List Value} {cells slots : Nat} {i : Nat} {B x : Nat} {P : hM} {lv1 l1 : List (Nat × Value)} (X : hOK C cc own nL ret) (hd : decode cc pc = .ok (.astore i, 2)) (hp : pc + 2 = pc2) (hn : i < nL) (hl : lv.filter (fun q => !(q.1 == i)) = lv1) (hf : lv.filter (fun q => q.1 + 1 == i) = l1) (hc : ∀ q ∈ l1, q.2.category = 1) (k : hSim C ret mc ms nL pc2 ((i, vR B x) :: lv1) st cells slots P) : hSim C ret mc ms nL pc lv (vR B x :: st) cells slots P := by
  subst hp
  obtain ⟨G, p, l, e, R, s, m, args, below, meth, c⟩ := C
  intro u r u1 H locs ls h1 h2 h3 h4
  have kk : ∀ ls2, lv_has ls2 nL ((i, vR B x) :: lv.filter (fun q => !(q.1 == i) && !(q.1 + 1 == i && q.2.category == 2))) → W p l e R s m args below meth c H locs cells slots (hMQ (G, p, l, e, R, s, m, args, below, meth, c) ret mc ms r u1) (F0 m (pc + 2) ls2 st) := fun ls2 h5 => k u r u1 H locs ls2 h1 h2 h3 (lv_fewer h5 (lv_put1 h4 hn (vR_cat B x) hl hf hc))
  show W p l e R s m args below meth c H locs cells slots (hMQ (G, p, l, e, R, s, m, args, below, meth, c) ret mc ms r u1) (F0 m pc ls (vR B x :: st))
  unfold vR at kk ⊢
  by_cases hx : x = 0
  · simp only [if_pos hx] at kk ⊢
    exact lv_astoreN X.1 X.2.1 hd h4 hn rfl kk
  · simp only [if_neg hx] at kk ⊢
    exact lv_astore X.1 X.2.1 hd h4 hn rfl kk
theorem s_iinc {C : hCx} {cc : ByteArray} {own : String} {nL : Nat} {ret : Option FieldType} {mc ms pc pc2 : Nat} {lv : List (Nat × Value)} {st : List Value} {cells slots : Nat} {i j : Nat} {n x : Int} {f : Int → hM} {lv1 l1 : List (Nat × Value)} (X : hOK C cc own nL ret) (hd : decode cc pc = .ok (.iinc i n, 3)) (hp : pc + 3 = pc2) (hn : i < nL) (hj : lv[j]? = some (i, vI x)) (hl : lv.filter (fun q => !(q.1 == i)) = lv1) (hf : lv.filter (fun q => q.1 + 1 == i) = l1) (hc : ∀ q ∈ l1, q.2.category = 1) (k : ∀ v, inI v → hSim C ret mc ms nL pc2 ((i, vI v) :: lv1) st cells slots (f v)) : hSim C ret mc ms nL pc lv st cells slots (hlet (w32 (x + n)) f) := by
  subst hp
  obtain ⟨G, p, l, e, R, s, m, args, below, meth, c⟩ := C
  intro u r u1 H locs ls h1 h2 h3 h4
  refine lv_iinc (v := Int32.ofInt (w32 (x + n))) (lv' := (i, vI (w32 (x + n))) :: lv.filter (fun q => !(q.1 == i) && !(q.1 + 1 == i && q.2.category == 2))) X.1 X.2.1 hd h4 hj (by rw [of_w32, Int32.ofInt_add]) hn rfl (fun ls2 h5 => ?_)
  exact k _ (w32_in _) u r u1 H locs ls2 h1 h2 h3 (lv_fewer h5 (lv_put1 h4 hn rfl hl hf hc))
theorem s_irem {C : hCx} {cc : ByteArray} {own : String} {nL : Nat} {ret : Option FieldType} {mc ms pc pc2 : Nat} {lv : List (Nat × Value)} {st : List Value} {cells slots : Nat} {x y : Int} {P : hM} (X : hOK C cc own nL ret) (hd : decode cc pc = .ok (.irem, 1)) (hp : pc + 1 = pc2) (hx : inI x) (hy : inI y) (k : hSim C ret mc ms nL pc2 lv (vI (iremZ x y) :: st) cells slots P) : hSim C ret mc ms nL pc lv (vI y :: vI x :: st) cells slots (hnz y P) := by
  subst hp
  obtain ⟨G, p, l, e, R, s, m, args, below, meth, c⟩ := C
  intro u r u1 H locs ls h1 h2 h3 h4
  by_cases hy0 : y = 0
  · rw [show hnz y P u = none from if_pos hy0] at h1; cases h1
  · have h1 : P u = some (r, u1) := by rw [← h1]; exact (if_neg hy0).symm
    have q9 : Int32.ofInt x - Int32.ofInt x / Int32.ofInt y * Int32.ofInt y = Int32.ofInt (iremZ x y) := by
      rw [irem_eq_mod, ← Int32.ofInt_toInt (Int32.ofInt x % Int32.ofInt y), Int32.toInt_mod, ofI_to hx, ofI_to hy]; rfl
    have k9 := k u r u1 H locs ls h1 h2 h3 h4
    refine lv_irem X.1 X.2.1 hd (fun z => hy0 ?_) ?_
    · have z2 := congrArg Int32.toInt z
      rw [ofI_to hy] at z2
      exact z2
    · rw [q9]
      exact k9
theorem s_lrem {C : hCx} {cc : ByteArray} {own : String} {nL : Nat} {ret : Option FieldType} {mc ms pc pc2 : Nat} {lv : List (Nat × Value)} {st : List Value} {cells slots : Nat} {x y : Int} {P : hM} (X : hOK C cc own nL ret) (hd : decode cc pc = .ok (.lrem, 1)) (hp : pc + 1 = pc2) (hx : inL x) (hy : inL y) (k : hSim C ret mc ms nL pc2 lv (vL (lremZ x y) :: st) cells slots P) : hSim C ret mc ms nL pc lv (vL y :: vL x :: st) cells slots (hnz y P) := by
  subst hp
  obtain ⟨G, p, l, e, R, s, m, args, below, meth, c⟩ := C
  intro u r u1 H locs ls h1 h2 h3 h4
  by_cases hy0 : y = 0
  · rw [show hnz y P u = none from if_pos hy0] at h1; cases h1
  · have h1 : P u = some (r, u1) := by rw [← h1]; exact (if_neg hy0).symm
    have q9 : Int64.ofInt x - Int64.ofInt x / Int64.ofInt y * Int64.ofInt y = Int64.ofInt (lremZ x y) := by
      rw [lrem_eq_mod, ← Int64.ofInt_toInt (Int64.ofInt x % Int64.ofInt y), Int64.toInt_mod, ofL_to hx, ofL_to hy]; rfl
    have k9 := k u r u1 H locs ls h1 h2 h3 h4
    refine lv_lrem X.1 X.2.1 hd (fun z => hy0 ?_) ?_
    · have z2 := congrArg Int64.toInt z
      rw [ofL_to hy] at z2
      exact z2
    · rw [q9]
      exact k9
theorem s_ldiv {C : hCx} {cc : ByteArray} {own : String} {nL : Nat} {ret : Option FieldType} {mc ms pc pc2 : Nat} {lv : List (Nat × Value)} {st : List Value} {cells slots : Nat} {x y : Int} {P : hM} (X : hOK C cc own nL ret) (hd : decode cc pc = .ok (.ldiv, 1)) (hp : pc + 1 = pc2) (hx : inL x) (hy : inL y) (k : hSim C ret mc ms nL pc2 lv (vL (ldivZ x y) :: st) cells slots P) : hSim C ret mc ms nL pc lv (vL y :: vL x :: st) cells slots (hnz y P) := by
  subst hp
  obtain ⟨G, p, l, e, R, s, m, args, below, meth, c⟩ := C
  intro u r u1 H locs ls h1 h2 h3 h4
  by_cases hy0 : y = 0
  · rw [show hnz y P u = none from if_pos hy0] at h1; cases h1
  · have h1 : P u = some (r, u1) := by rw [← h1]; exact (if_neg hy0).symm
    have q9 : Int64.ofInt x / Int64.ofInt y = Int64.ofInt (ldivZ x y) := by
      rw [← Int64.ofInt_toInt (Int64.ofInt x / Int64.ofInt y), Int64.toInt_div, ofL_to hx, ofL_to hy]; rfl
    have k9 := k u r u1 H locs ls h1 h2 h3 h4
    refine lv_ldiv X.1 X.2.1 hd (fun z => hy0 ?_) ?_
    · have z2 := congrArg Int64.toInt z
      rw [ofL_to hy] at z2
      exact z2
    · rw [q9]
      exact k9
theorem iremZ_in {x y : Int} (hx : inI x) (hy : inI y) : inI (iremZ x y) := by
  have h := toI_in (Int32.ofInt x % Int32.ofInt y)
  rw [Int32.toInt_mod, ofI_to hx, ofI_to hy] at h
  exact h
theorem lremZ_in {x y : Int} (hx : inL x) (hy : inL y) : inL (lremZ x y) := by
  have h := toL_in (Int64.ofInt x % Int64.ofInt y)
  rw [Int64.toInt_mod, ofL_to hx, ofL_to hy] at h
  exact h
theorem ldivZ_in (x y : Int) : inL (ldivZ x y) := w64_in _
theorem iandZ_in (x y : Int) : inI (iandZ x y) := toI_in _
theorem iorZ_in (x y : Int) : inI (iorZ x y) := toI_in _
theorem ixorZ_in (x y : Int) : inI (ixorZ x y) := toI_in _
theorem ishlZ_in (x y : Int) : inI (ishlZ x y) := toI_in _
theorem ishrZ_in (x y : Int) : inI (ishrZ x y) := toI_in _
theorem iushrZ_in (x y : Int) : inI (iushrZ x y) := toI_in _
theorem i2bZ_in (x : Int) : inI (i2bZ x) := toI_in _
theorem i2cZ_in (x : Int) : inI (i2cZ x) := toI_in _
theorem landZ_in (x y : Int) : inL (landZ x y) := toL_in _
theorem lorZ_in (x y : Int) : inL (lorZ x y) := toL_in _
theorem lshlZ_in (x y : Int) : inL (lshlZ x y) := toL_in _
theorem lcmpZ_in (x y : Int) : inI (lcmpZ x y) := by
  unfold lcmpZ
  by_cases h : y < x
  · rw [if_pos h]; exact inI_c 1 rfl
  · rw [if_neg h]
    by_cases h2 : x = y
    · rw [if_pos h2]; exact inI_c 0 rfl
    · rw [if_neg h2]; exact inI_c (-1) rfl
theorem s_ret {C : hCx} {cc : ByteArray} {own : String} {nL pc : Nat} {lv : List (Nat × Value)} {cells slots : Nat} (X : hOK C cc own nL none) {x : Int} (hd : decode cc pc = .ok (.return_, 1)) : hSim C none cells slots nL pc lv [] cells slots (hret x) := by
  obtain ⟨G, p, l, e, R, s, m, args, below, meth, c⟩ := C
  intro u r u1 H locs ls h1 h2 h3 h4
  cases h1
  obtain ⟨x1, x2, x3, x4, x5, x6, x7, x8⟩ := X
  exact W.vret x1 x2 x7 (fun t ht hW => ⟨rfl, trivial, by rw [ht]; exact h2⟩) h3 hd x8
theorem s_iret {C : hCx} {cc : ByteArray} {own : String} {nL pc : Nat} {lv : List (Nat × Value)} {cells slots : Nat} (X : hOK C cc own nL (some .int)) {x : Int} (hd : decode cc pc = .ok (.ireturn, 1)) (hx : inI x) : hSim C (some .int) cells slots nL pc lv [vI x] cells slots (hret x) := by
  obtain ⟨G, p, l, e, R, s, m, args, below, meth, c⟩ := C
  intro u r u1 H locs ls h1 h2 h3 h4
  cases h1
  obtain ⟨x1, x2, x3, x4, x5, x6, x7, x8⟩ := X
  exact W.iret x1 x2 x7 (fun t ht hW => ⟨rfl, hx, by rw [ht]; exact h2⟩) h3 hd x8
theorem s_lret {C : hCx} {cc : ByteArray} {own : String} {nL pc : Nat} {lv : List (Nat × Value)} {cells slots : Nat} (X : hOK C cc own nL (some .long)) {x : Int} (hd : decode cc pc = .ok (.lreturn, 1)) (hx : inL x) : hSim C (some .long) cells slots nL pc lv [vL x] cells slots (hret x) := by
  obtain ⟨G, p, l, e, R, s, m, args, below, meth, c⟩ := C
  intro u r u1 H locs ls h1 h2 h3 h4
  cases h1
  obtain ⟨x1, x2, x3, x4, x5, x6, x7, x8⟩ := X
  exact W.lret x1 x2 x7 (fun t ht hW => ⟨rfl, hx, by rw [ht]; exact h2⟩) h3 hd x8
theorem s_zret {C : hCx} {cc : ByteArray} {own : String} {nL pc : Nat} {lv : List (Nat × Value)} {cells slots : Nat} (X : hOK C cc own nL (some .boolean)) {x : Int} (hd : decode cc pc = .ok (.ireturn, 1)) : hSim C (some .boolean) cells slots nL pc lv [vI x] cells slots (hretZ x) := by
  obtain ⟨G, p, l, e, R, s, m, args, below, meth, c⟩ := C
  intro u r u1 H locs ls h1 h2 h3 h4
  obtain ⟨x1, x2, x3, x4, x5, x6, x7, x8⟩ := X
  by_cases hx : x = 0 ∨ x = 1
  · rw [show hretZ x u = some (x, u) from if_pos hx] at h1
    cases h1
    refine W.zret x1 x2 x7 ?_ (fun t ht hW => ⟨rfl, hx, by rw [ht]; exact h2⟩) h3 hd x8
    rcases hx with hx | hx <;> rw [hx] <;> rfl
  · rw [show hretZ x u = none from if_neg hx] at h1
    cases h1
