theorem nar_0 {ty : FieldType} {x : Int} (h : hkd ty = 0) : narrow ty (vI x) = vI x := by cases ty <;> first | rfl | cases h
theorem fit_0 {ty : FieldType} {x : Int} (h : hkd ty = 0) : fits ty (vI x) = true := by cases ty <;> first | rfl | cases h
theorem nar_1 {ty : FieldType} {x : Int} (h : hkd ty = 1) : narrow ty (vL x) = vL x := by cases ty <;> first | rfl | cases h
theorem fit_1 {ty : FieldType} {x : Int} (h : hkd ty = 1) : fits ty (vL x) = true := by cases ty <;> first | rfl | cases h
theorem nar_3 {ty : FieldType} {x : Int} (h : hkd ty = 3) (hx : x = 0 ∨ x = 1) : narrow ty (vI x) = vI x := by
  rcases hx with hx | hx <;> subst hx <;> cases ty <;> first | rfl | cases h
theorem fit_3 {ty : FieldType} {x : Int} (h : hkd ty = 3) (hx : x = 0 ∨ x = 1) : fits ty (vI x) = true := by
  rcases hx with hx | hx <;> subst hx <;> cases ty <;> first | rfl | cases h
theorem nar_2 {ty : FieldType} {B x : Nat} (h : hkd ty = 2) : narrow ty (vR B x) = vR B x := by
  unfold vR
  by_cases hx : x = 0
  · rw [if_pos hx]; cases ty <;> first | rfl | cases h
  · rw [if_neg hx]; cases ty <;> first | rfl | cases h
theorem fit_2 {ty : FieldType} {B x : Nat} (h : hkd ty = 2) : fits ty (vR B x) = true := by
  unfold vR
  by_cases hx : x = 0
  · rw [if_pos hx]; cases ty <;> first | rfl | cases h
  · rw [if_neg hx]; cases ty <;> first | rfl | cases h
theorem s_getI {C : hCx} {cc : ByteArray} {own : String} {nL : Nat} {ret : Option FieldType} {mc ms pc pc2 : Nat} {lv : List (Nat × Value)} {st : List Value} {cells slots : Nat} {idx ci i a : Nat} {fin : Bool} {f : Int → hM} (X : hOK C cc own nL ret) (hd : decode cc pc = .ok (.getfield idx, 3)) (hp : pc + 3 = pc2) (hf : hFl own idx ci i fin) (hk : hkd (tyOf ci i) = 0) (k : ∀ v, inI v → hSim C ret mc ms nL pc2 lv (vI v :: st) cells slots (f v)) : hSim C ret mc ms nL pc lv (vR C.1.1 a :: st) cells slots (hgI ci a i f) := by
  subst hp
  obtain ⟨G, p, l, e, R, s, m, args, below, meth, c⟩ := C
  intro u r u1 H locs ls h1 h2 h3 h4
  by_cases ha : hok u a ci
  · rw [show hgI ci a i f u = f (hV u a i) u from if_pos ha] at h1
    refine hg_get X hf hd h2 ha (fun z => ?_)
    rw [hval_0 hk]
    exact k _ ((hin_0 hk).mp z) u r u1 H locs ls h1 h2 h3 h4
  · rw [show hgI ci a i f u = none from if_neg ha] at h1
    cases h1
theorem s_getL {C : hCx} {cc : ByteArray} {own : String} {nL : Nat} {ret : Option FieldType} {mc ms pc pc2 : Nat} {lv : List (Nat × Value)} {st : List Value} {cells slots : Nat} {idx ci i a : Nat} {fin : Bool} {f : Int → hM} (X : hOK C cc own nL ret) (hd : decode cc pc = .ok (.getfield idx, 3)) (hp : pc + 3 = pc2) (hf : hFl own idx ci i fin) (hk : hkd (tyOf ci i) = 1) (k : ∀ v, inL v → hSim C ret mc ms nL pc2 lv (vL v :: st) cells slots (f v)) : hSim C ret mc ms nL pc lv (vR C.1.1 a :: st) cells slots (hgI ci a i f) := by
  subst hp
  obtain ⟨G, p, l, e, R, s, m, args, below, meth, c⟩ := C
  intro u r u1 H locs ls h1 h2 h3 h4
  by_cases ha : hok u a ci
  · rw [show hgI ci a i f u = f (hV u a i) u from if_pos ha] at h1
    refine hg_get X hf hd h2 ha (fun z => ?_)
    rw [hval_1 hk]
    exact k _ ((hin_1 hk).mp z) u r u1 H locs ls h1 h2 h3 h4
  · rw [show hgI ci a i f u = none from if_neg ha] at h1
    cases h1
theorem s_getZ {C : hCx} {cc : ByteArray} {own : String} {nL : Nat} {ret : Option FieldType} {mc ms pc pc2 : Nat} {lv : List (Nat × Value)} {st : List Value} {cells slots : Nat} {idx ci i a : Nat} {fin : Bool} {f : Int → hM} (X : hOK C cc own nL ret) (hd : decode cc pc = .ok (.getfield idx, 3)) (hp : pc + 3 = pc2) (hf : hFl own idx ci i fin) (hk : hkd (tyOf ci i) = 3) (k : ∀ v, inI v → hSim C ret mc ms nL pc2 lv (vI v :: st) cells slots (f v)) : hSim C ret mc ms nL pc lv (vR C.1.1 a :: st) cells slots (hgI ci a i f) := by
  subst hp
  obtain ⟨G, p, l, e, R, s, m, args, below, meth, c⟩ := C
  intro u r u1 H locs ls h1 h2 h3 h4
  by_cases ha : hok u a ci
  · rw [show hgI ci a i f u = f (hV u a i) u from if_pos ha] at h1
    refine hg_get X hf hd h2 ha (fun z => ?_)
    rw [hval_3 hk]
    exact k _ (by rcases (hin_3 hk).mp z with z | z <;> rw [z] <;> exact inI_c _ rfl) u r u1 H locs ls h1 h2 h3 h4
  · rw [show hgI ci a i f u = none from if_neg ha] at h1
    cases h1
theorem s_getR {C : hCx} {cc : ByteArray} {own : String} {nL : Nat} {ret : Option FieldType} {mc ms pc pc2 : Nat} {lv : List (Nat × Value)} {st : List Value} {cells slots : Nat} {idx ci i a : Nat} {fin : Bool} {f : Nat → hM} (X : hOK C cc own nL ret) (hd : decode cc pc = .ok (.getfield idx, 3)) (hp : pc + 3 = pc2) (hf : hFl own idx ci i fin) (hk : hkd (tyOf ci i) = 2) (k : ∀ v, hSim C ret mc ms nL pc2 lv (vR C.1.1 v :: st) cells slots (f v)) : hSim C ret mc ms nL pc lv (vR C.1.1 a :: st) cells slots (hgR ci a i f) := by
  subst hp
  obtain ⟨G, p, l, e, R, s, m, args, below, meth, c⟩ := C
  intro u r u1 H locs ls h1 h2 h3 h4
  by_cases ha : hok u a ci
  · rw [show hgR ci a i f u = f (hF u a i) u from if_pos ha] at h1
    refine hg_get X hf hd h2 ha (fun z => ?_)
    rw [hval_2 hk]
    exact k _ u r u1 H locs ls h1 h2 h3 h4
  · rw [show hgR ci a i f u = none from if_neg ha] at h1
    cases h1
theorem s_putI {C : hCx} {cc : ByteArray} {own : String} {nL : Nat} {ret : Option FieldType} {mc ms pc pc2 : Nat} {lv : List (Nat × Value)} {st : List Value} {cells slots : Nat} {idx ci i a : Nat} {fin : Bool} {P : hM} {x : Int} (X : hOK C cc own nL ret) (hd : decode cc pc = .ok (.putfield idx, 3)) (hp : pc + 3 = pc2) (hf : hFl own idx ci i fin) (hfin : fin = false ∨ (C.2.2.2.2.2.2.2.2.2.1.name = "<init>" ∧ ∃ q, vwCl[ci]? = some q ∧ q.1 = own)) (hk : hkd (tyOf ci i) = 0) (hx : inI x) (k : hSim C ret mc ms nL pc2 lv st cells slots P) : hSim C ret mc ms nL pc lv (vI x :: vR C.1.1 a :: st) cells slots (hpI ci a i x P) := by
  subst hp
  obtain ⟨G, p, l, e, R, s, m, args, below, meth, c⟩ := C
  intro u r u1 H locs ls h1 h2 h3 h4
  by_cases ha : hok u a ci
  · rw [show hpI ci a i x P u = P (hsetV u a i x) from if_pos ha] at h1
    refine hg_put (u2 := hsetV u a i x) X hf hfin hd h2 h3 ha (nar_0 hk) (fit_0 hk) rfl hsetV_s rfl (by rw [hval_0 hk, hV_setV, if_pos ⟨rfl, rfl⟩]) (by rw [hV_setV, if_pos ⟨rfl, rfl⟩]; exact (hin_0 hk).mpr hx) (fun j hj => ⟨if_neg (fun z => hj z.2), rfl⟩) (fun H2 locs2 r2 r3 => ?_)
    exact k _ r u1 H2 locs2 ls h1 r2 r3 h4
  · rw [show hpI ci a i x P u = none from if_neg ha] at h1
    cases h1
theorem s_putL {C : hCx} {cc : ByteArray} {own : String} {nL : Nat} {ret : Option FieldType} {mc ms pc pc2 : Nat} {lv : List (Nat × Value)} {st : List Value} {cells slots : Nat} {idx ci i a : Nat} {fin : Bool} {P : hM} {x : Int} (X : hOK C cc own nL ret) (hd : decode cc pc = .ok (.putfield idx, 3)) (hp : pc + 3 = pc2) (hf : hFl own idx ci i fin) (hfin : fin = false ∨ (C.2.2.2.2.2.2.2.2.2.1.name = "<init>" ∧ ∃ q, vwCl[ci]? = some q ∧ q.1 = own)) (hk : hkd (tyOf ci i) = 1) (hx : inL x) (k : hSim C ret mc ms nL pc2 lv st cells slots P) : hSim C ret mc ms nL pc lv (vL x :: vR C.1.1 a :: st) cells slots (hpI ci a i x P) := by
  subst hp
  obtain ⟨G, p, l, e, R, s, m, args, below, meth, c⟩ := C
  intro u r u1 H locs ls h1 h2 h3 h4
  by_cases ha : hok u a ci
  · rw [show hpI ci a i x P u = P (hsetV u a i x) from if_pos ha] at h1
    refine hg_put (u2 := hsetV u a i x) X hf hfin hd h2 h3 ha (nar_1 hk) (fit_1 hk) rfl hsetV_s rfl (by rw [hval_1 hk, hV_setV, if_pos ⟨rfl, rfl⟩]) (by rw [hV_setV, if_pos ⟨rfl, rfl⟩]; exact (hin_1 hk).mpr hx) (fun j hj => ⟨if_neg (fun z => hj z.2), rfl⟩) (fun H2 locs2 r2 r3 => ?_)
    exact k _ r u1 H2 locs2 ls h1 r2 r3 h4
  · rw [show hpI ci a i x P u = none from if_neg ha] at h1
    cases h1
theorem s_putZ {C : hCx} {cc : ByteArray} {own : String} {nL : Nat} {ret : Option FieldType} {mc ms pc pc2 : Nat} {lv : List (Nat × Value)} {st : List Value} {cells slots : Nat} {idx ci i a : Nat} {fin : Bool} {P : hM} {x : Int} (X : hOK C cc own nL ret) (hd : decode cc pc = .ok (.putfield idx, 3)) (hp : pc + 3 = pc2) (hf : hFl own idx ci i fin) (hfin : fin = false ∨ (C.2.2.2.2.2.2.2.2.2.1.name = "<init>" ∧ ∃ q, vwCl[ci]? = some q ∧ q.1 = own)) (hk : hkd (tyOf ci i) = 3) (k : hSim C ret mc ms nL pc2 lv st cells slots P) : hSim C ret mc ms nL pc lv (vI x :: vR C.1.1 a :: st) cells slots (hpZ ci a i x P) := by
  subst hp
  obtain ⟨G, p, l, e, R, s, m, args, below, meth, c⟩ := C
  intro u r u1 H locs ls h1 h2 h3 h4
  by_cases ha : hok u a ci ∧ (x = 0 ∨ x = 1)
  · rw [show hpZ ci a i x P u = P (hsetV u a i x) from if_pos ha] at h1
    refine hg_put (u2 := hsetV u a i x) X hf hfin hd h2 h3 ha.1 (nar_3 hk ha.2) (fit_3 hk ha.2) rfl hsetV_s rfl (by rw [hval_3 hk, hV_setV, if_pos ⟨rfl, rfl⟩]) (by rw [hV_setV, if_pos ⟨rfl, rfl⟩]; exact (hin_3 hk).mpr ha.2) (fun j hj => ⟨if_neg (fun z => hj z.2), rfl⟩) (fun H2 locs2 r2 r3 => ?_)
    exact k _ r u1 H2 locs2 ls h1 r2 r3 h4
  · rw [show hpZ ci a i x P u = none from if_neg ha] at h1
    cases h1
theorem s_putR {C : hCx} {cc : ByteArray} {own : String} {nL : Nat} {ret : Option FieldType} {mc ms pc pc2 : Nat} {lv : List (Nat × Value)} {st : List Value} {cells slots : Nat} {idx ci i a : Nat} {fin : Bool} {P : hM} {x : Nat} (X : hOK C cc own nL ret) (hd : decode cc pc = .ok (.putfield idx, 3)) (hp : pc + 3 = pc2) (hf : hFl own idx ci i fin) (hfin : fin = false ∨ (C.2.2.2.2.2.2.2.2.2.1.name = "<init>" ∧ ∃ q, vwCl[ci]? = some q ∧ q.1 = own)) (hk : hkd (tyOf ci i) = 2) (k : hSim C ret mc ms nL pc2 lv st cells slots P) : hSim C ret mc ms nL pc lv (vR C.1.1 x :: vR C.1.1 a :: st) cells slots (hpR ci a i x P) := by
  subst hp
  obtain ⟨G, p, l, e, R, s, m, args, below, meth, c⟩ := C
  intro u r u1 H locs ls h1 h2 h3 h4
  by_cases ha : hok u a ci
  · rw [show hpR ci a i x P u = P (hsetF u a i x) from if_pos ha] at h1
    refine hg_put (u2 := hsetF u a i x) X hf hfin hd h2 h3 ha (nar_2 hk) (fit_2 hk) rfl hsetF_s rfl (by rw [hval_2 hk, hF_setF, if_pos ⟨rfl, rfl⟩]) (hin_2 hk) (fun j hj => ⟨rfl, if_neg (fun z => hj z.2)⟩) (fun H2 locs2 r2 r3 => ?_)
    exact k _ r u1 H2 locs2 ls h1 r2 r3 h4
  · rw [show hpR ci a i x P u = none from if_neg ha] at h1
    cases h1
