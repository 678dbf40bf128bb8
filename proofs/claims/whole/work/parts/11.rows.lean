/-! rows -/
theorem hg_row {G : hG} {u : hS} {H : Heap} {a k : Nat} (h2 : hR G u H) (ha : hok u a k) (hk : 20 ≤ k) : H[G.1 + a]? = some (arrV (G.2.2.2.1 k) (hN u a) (fun i => hval (etOf k) G.1 (hV u a i) (hF u a i))) ∧ (∀ i, i < hN u a → hin (etOf k) (hV u a i)) ∧ hN u a < 2147483648 ∧ k < 27 := by
  obtain ⟨a1, a2, a3⟩ := ha
  have h := (h2.2.2.2 a a1 a2).2 (by rw [a3]; exact hk)
  unfold hrow at h
  rw [a3] at h
  exact ⟨h.2.1, h.2.2, h.1.2, h.1.1⟩
theorem hg_ix {i : Int} {n : Nat} (h0 : 0 ≤ i) (h1 : i < (n : Int)) (hn : n < 2147483648) : inI i ∧ ¬ (Int32.ofInt i < 0 ∨ n ≤ (Int32.ofInt i).toNatClampNeg) ∧ (Int32.ofInt i).toNatClampNeg = i.toNat ∧ i.toNat < n := by
  have hi : inI i := ⟨by omega, by omega⟩
  have hc := inI_clamp h0 hi
  refine ⟨hi, fun z => ?_, hc, by omega⟩
  rcases z with z | z
  · have := (of_lt hi (inI_c 0 rfl)).mp z
    omega
  · rw [hc] at z
    omega
theorem hR_rowV {G : hG} {u : hS} {H H2 : Heap} {a k i : Nat} {x : Int} (h2 : hR G u H) (ha : hok u a k) (hk : 20 ≤ k) (hkd : hkd (etOf k) ≠ 2) (hx : hin (etOf k) x) (e1 : H2[G.1 + a]? = some (arrV (G.2.2.2.1 k) (hN u a) (updV (fun i => hval (etOf k) G.1 (hV u a i) (hF u a i)) i (hval (etOf k) G.1 x 0)))) (e2 : H2.size = H.size) (e3 : ∀ q, q ≠ G.1 + a → H2[q]? = H[q]?) : hR G (hsetV u a i x) H2 := by
  obtain ⟨g1, g2, g3, g4⟩ := hg_row h2 ha hk
  obtain ⟨a1, a2, a3⟩ := ha
  refine hR_set h2 rfl ⟨a1, a2⟩ e2 e3 hsetV_s ⟨fun z => by rw [hK_setV, a3] at z; omega, fun _ => ?_⟩
  unfold hrow
  rw [hK_setV, hN_setV, a3]
  refine ⟨⟨g4, g3⟩, ?_, fun j hj => ?_⟩
  · rw [e1]
    congr 2
    funext j
    unfold updV
    rw [hV_setV]
    by_cases hj : j = i
    · rw [if_pos hj, if_pos ⟨rfl, hj⟩]
      revert hkd
      unfold hval
      cases etOf k <;> intro hkd <;> first | rfl | exact absurd rfl hkd
    · rw [if_neg hj, if_neg (fun z => hj z.2)]
      rfl
  · rw [hV_setV]
    by_cases hji : j = i
    · rw [if_pos ⟨rfl, hji⟩]; exact hx
    · rw [if_neg (fun z => hji z.2)]; exact g2 j hj
theorem hR_rowF {G : hG} {u : hS} {H H2 : Heap} {a k i x : Nat} (h2 : hR G u H) (ha : hok u a k) (hk : 20 ≤ k) (hkd : hkd (etOf k) = 2) (e1 : H2[G.1 + a]? = some (arrV (G.2.2.2.1 k) (hN u a) (updV (fun i => hval (etOf k) G.1 (hV u a i) (hF u a i)) i (vR G.1 x)))) (e2 : H2.size = H.size) (e3 : ∀ q, q ≠ G.1 + a → H2[q]? = H[q]?) : hR G (hsetF u a i x) H2 := by
  obtain ⟨g1, g2, g3, g4⟩ := hg_row h2 ha hk
  obtain ⟨a1, a2, a3⟩ := ha
  refine hR_set h2 rfl ⟨a1, a2⟩ e2 e3 hsetF_s ⟨fun z => by rw [hK_setF, a3] at z; omega, fun _ => ?_⟩
  unfold hrow
  rw [hK_setF, hN_setF, a3]
  refine ⟨⟨g4, g3⟩, ?_, fun j hj => g2 j hj⟩
  rw [e1]
  congr 2
  funext j
  unfold updV
  rw [hF_setF]
  by_cases hj : j = i
  · rw [if_pos hj, if_pos ⟨rfl, hj⟩, hval_2 hkd]
  · rw [if_neg hj, if_neg (fun z => hj z.2)]
    rfl
theorem s_iald {C : hCx} {cc : ByteArray} {own : String} {nL : Nat} {ret : Option FieldType} {mc ms pc pc2 : Nat} {lv : List (Nat × Value)} {st : List Value} {cells slots : Nat} {a : Nat} {i : Int} {f : Int → hM} (X : hOK C cc own nL ret) (hd : decode cc pc = .ok (.iaload, 1)) (hp : pc + 1 = pc2) (k : ∀ v, inI v → hSim C ret mc ms nL pc2 lv (vI v :: st) cells slots (f v)) : hSim C ret mc ms nL pc lv (vI i :: vR C.1.1 a :: st) cells slots (haI 20 a i f) := by
  subst hp
  obtain ⟨G, p, l, e, R, s, m, args, below, meth, c⟩ := C
  intro u r u1 H locs ls h1 h2 h3 h4
  by_cases ha : hok u a 20 ∧ 0 ≤ i ∧ i < (hN u a : Int)
  · rw [show haI 20 a i f u = f (hV u a i.toNat) u from if_pos ha] at h1
    obtain ⟨g1, g2, g3, -⟩ := hg_row h2 ha.1 (by decide)
    obtain ⟨j1, j2, j3, j4⟩ := hg_ix ha.2.1 ha.2.2 g3
    have z := g2 _ j4
    have k9 := k _ z u r u1 H locs ls h1 h2 h3 h4
    have hA : ArrOfT s (G.2.2.2.1 20) .int := (X.2.2.2.2.2.1.2.1 20 (by decide) (by decide)).1
    show W p l e R s m args below meth c H locs cells slots (hMQ (G, p, l, e, R, s, m, args, below, meth, c) ret mc ms r u1) (F0 m pc ls (vI i :: vR G.1 a :: st))
    unfold vR
    rw [if_neg (show ¬ a = 0 by have := ha.1.1; omega)]
    refine W.iald X.1 X.2.1 g1 (hA _ _) (fun z => by cases z) (by rw [arrV_size]; exact j2) (v := vI (hV u a i.toNat)) (by rw [j3, arrV_read _ _ j4]; rfl) rfl rfl hd k9
  · rw [show haI 20 a i f u = none from if_neg ha] at h1
    cases h1
theorem s_bald {C : hCx} {cc : ByteArray} {own : String} {nL : Nat} {ret : Option FieldType} {mc ms pc pc2 : Nat} {lv : List (Nat × Value)} {st : List Value} {cells slots : Nat} {a : Nat} {i : Int} {f : Int → hM} (X : hOK C cc own nL ret) (hd : decode cc pc = .ok (.baload, 1)) (hp : pc + 1 = pc2) (k : ∀ v, inI v → hSim C ret mc ms nL pc2 lv (vI v :: st) cells slots (f v)) : hSim C ret mc ms nL pc lv (vI i :: vR C.1.1 a :: st) cells slots (haI 22 a i f) := by
  subst hp
  obtain ⟨G, p, l, e, R, s, m, args, below, meth, c⟩ := C
  intro u r u1 H locs ls h1 h2 h3 h4
  by_cases ha : hok u a 22 ∧ 0 ≤ i ∧ i < (hN u a : Int)
  · rw [show haI 22 a i f u = f (hV u a i.toNat) u from if_pos ha] at h1
    obtain ⟨g1, g2, g3, -⟩ := hg_row h2 ha.1 (by decide)
    obtain ⟨j1, j2, j3, j4⟩ := hg_ix ha.2.1 ha.2.2 g3
    have z := g2 _ j4
    have k9 := k _ ⟨by have := z.1; omega, by have := z.2; omega⟩ u r u1 H locs ls h1 h2 h3 h4
    have hA : ArrOfT s (G.2.2.2.1 22) .byte := (X.2.2.2.2.2.1.2.1 22 (by decide) (by decide)).1
    show W p l e R s m args below meth c H locs cells slots (hMQ (G, p, l, e, R, s, m, args, below, meth, c) ret mc ms r u1) (F0 m pc ls (vI i :: vR G.1 a :: st))
    unfold vR
    rw [if_neg (show ¬ a = 0 by have := ha.1.1; omega)]
    refine W.bald X.1 X.2.1 g1 (hA _ _) (fun z => by cases z) (by rw [arrV_size]; exact j2) (v := vI (hV u a i.toNat)) (by rw [j3, arrV_read _ _ j4]; rfl) rfl rfl hd k9
  · rw [show haI 22 a i f u = none from if_neg ha] at h1
    cases h1
theorem s_zald {C : hCx} {cc : ByteArray} {own : String} {nL : Nat} {ret : Option FieldType} {mc ms pc pc2 : Nat} {lv : List (Nat × Value)} {st : List Value} {cells slots : Nat} {a : Nat} {i : Int} {f : Int → hM} (X : hOK C cc own nL ret) (hd : decode cc pc = .ok (.baload, 1)) (hp : pc + 1 = pc2) (k : ∀ v, inI v → hSim C ret mc ms nL pc2 lv (vI v :: st) cells slots (f v)) : hSim C ret mc ms nL pc lv (vI i :: vR C.1.1 a :: st) cells slots (haI 23 a i f) := by
  subst hp
  obtain ⟨G, p, l, e, R, s, m, args, below, meth, c⟩ := C
  intro u r u1 H locs ls h1 h2 h3 h4
  by_cases ha : hok u a 23 ∧ 0 ≤ i ∧ i < (hN u a : Int)
  · rw [show haI 23 a i f u = f (hV u a i.toNat) u from if_pos ha] at h1
    obtain ⟨g1, g2, g3, -⟩ := hg_row h2 ha.1 (by decide)
    obtain ⟨j1, j2, j3, j4⟩ := hg_ix ha.2.1 ha.2.2 g3
    have z := g2 _ j4
    have k9 := k _ (by rcases z with z | z <;> rw [z] <;> exact inI_c _ rfl) u r u1 H locs ls h1 h2 h3 h4
    have hA : ArrOfT s (G.2.2.2.1 23) .boolean := (X.2.2.2.2.2.1.2.1 23 (by decide) (by decide)).1
    show W p l e R s m args below meth c H locs cells slots (hMQ (G, p, l, e, R, s, m, args, below, meth, c) ret mc ms r u1) (F0 m pc ls (vI i :: vR G.1 a :: st))
    unfold vR
    rw [if_neg (show ¬ a = 0 by have := ha.1.1; omega)]
    refine W.zald X.1 X.2.1 g1 (hA _ _) (fun z => by cases z) (by rw [arrV_size]; exact j2) (v := vI (hV u a i.toNat)) (by rw [j3, arrV_read _ _ j4]; rfl) rfl rfl hd k9
  · rw [show haI 23 a i f u = none from if_neg ha] at h1
    cases h1
theorem s_lald {C : hCx} {cc : ByteArray} {own : String} {nL : Nat} {ret : Option FieldType} {mc ms pc pc2 : Nat} {lv : List (Nat × Value)} {st : List Value} {cells slots : Nat} {a : Nat} {i : Int} {f : Int → hM} (X : hOK C cc own nL ret) (hd : decode cc pc = .ok (.laload, 1)) (hp : pc + 1 = pc2) (k : ∀ v, inL v → hSim C ret mc ms nL pc2 lv (vL v :: st) cells slots (f v)) : hSim C ret mc ms nL pc lv (vI i :: vR C.1.1 a :: st) cells slots (haI 21 a i f) := by
  subst hp
  obtain ⟨G, p, l, e, R, s, m, args, below, meth, c⟩ := C
  intro u r u1 H locs ls h1 h2 h3 h4
  by_cases ha : hok u a 21 ∧ 0 ≤ i ∧ i < (hN u a : Int)
  · rw [show haI 21 a i f u = f (hV u a i.toNat) u from if_pos ha] at h1
    obtain ⟨g1, g2, g3, -⟩ := hg_row h2 ha.1 (by decide)
    obtain ⟨j1, j2, j3, j4⟩ := hg_ix ha.2.1 ha.2.2 g3
    have z := g2 _ j4
    have k9 := k _ z u r u1 H locs ls h1 h2 h3 h4
    have hA : ArrOfT s (G.2.2.2.1 21) .long := (X.2.2.2.2.2.1.2.1 21 (by decide) (by decide)).1
    show W p l e R s m args below meth c H locs cells slots (hMQ (G, p, l, e, R, s, m, args, below, meth, c) ret mc ms r u1) (F0 m pc ls (vI i :: vR G.1 a :: st))
    unfold vR
    rw [if_neg (show ¬ a = 0 by have := ha.1.1; omega)]
    refine W.lald X.1 X.2.1 g1 (hA _ _) (fun z => by cases z) (by rw [arrV_size]; exact j2) (v := vL (hV u a i.toNat)) (by rw [j3, arrV_read _ _ j4]; rfl) rfl rfl hd k9
  · rw [show haI 21 a i f u = none from if_neg ha] at h1
    cases h1
theorem s_aald24 {C : hCx} {cc : ByteArray} {own : String} {nL : Nat} {ret : Option FieldType} {mc ms pc pc2 : Nat} {lv : List (Nat × Value)} {st : List Value} {cells slots : Nat} {a : Nat} {i : Int} {f : Nat → hM} (X : hOK C cc own nL ret) (hd : decode cc pc = .ok (.aaload, 1)) (hp : pc + 1 = pc2) (k : ∀ v, hSim C ret mc ms nL pc2 lv (vR C.1.1 v :: st) cells slots (f v)) : hSim C ret mc ms nL pc lv (vI i :: vR C.1.1 a :: st) cells slots (haR 24 a i f) := by
  subst hp
  obtain ⟨G, p, l, e, R, s, m, args, below, meth, c⟩ := C
  intro u r u1 H locs ls h1 h2 h3 h4
  by_cases ha : hok u a 24 ∧ 0 ≤ i ∧ i < (hN u a : Int)
  · rw [show haR 24 a i f u = f (hF u a i.toNat) u from if_pos ha] at h1
    obtain ⟨g1, g2, g3, -⟩ := hg_row h2 ha.1 (by decide)
    obtain ⟨j1, j2, j3, j4⟩ := hg_ix ha.2.1 ha.2.2 g3
    have k9 := k _ u r u1 H locs ls h1 h2 h3 h4
    have hA : ArrOfT s (G.2.2.2.1 24) (etOf 24) := (X.2.2.2.2.2.1.2.1 24 (by decide) (by decide)).1
    show W p l e R s m args below meth c H locs cells slots (hMQ (G, p, l, e, R, s, m, args, below, meth, c) ret mc ms r u1) (F0 m pc ls (vI i :: vR G.1 a :: st))
    conv => arg 16; unfold vR; rw [if_neg (show ¬ a = 0 by have := ha.1.1; omega)]
    refine W.aald X.1 X.2.1 g1 (hA _ _) rfl (fun z => by cases z) (by rw [arrV_size]; exact j2) (v := vR G.1 (hF u a i.toNat)) (by rw [j3, arrV_read _ _ j4]; rfl) rfl rfl hd k9
  · rw [show haR 24 a i f u = none from if_neg ha] at h1
    cases h1
theorem s_aald25 {C : hCx} {cc : ByteArray} {own : String} {nL : Nat} {ret : Option FieldType} {mc ms pc pc2 : Nat} {lv : List (Nat × Value)} {st : List Value} {cells slots : Nat} {a : Nat} {i : Int} {f : Nat → hM} (X : hOK C cc own nL ret) (hd : decode cc pc = .ok (.aaload, 1)) (hp : pc + 1 = pc2) (k : ∀ v, hSim C ret mc ms nL pc2 lv (vR C.1.1 v :: st) cells slots (f v)) : hSim C ret mc ms nL pc lv (vI i :: vR C.1.1 a :: st) cells slots (haR 25 a i f) := by
  subst hp
  obtain ⟨G, p, l, e, R, s, m, args, below, meth, c⟩ := C
  intro u r u1 H locs ls h1 h2 h3 h4
  by_cases ha : hok u a 25 ∧ 0 ≤ i ∧ i < (hN u a : Int)
  · rw [show haR 25 a i f u = f (hF u a i.toNat) u from if_pos ha] at h1
    obtain ⟨g1, g2, g3, -⟩ := hg_row h2 ha.1 (by decide)
    obtain ⟨j1, j2, j3, j4⟩ := hg_ix ha.2.1 ha.2.2 g3
    have k9 := k _ u r u1 H locs ls h1 h2 h3 h4
    have hA : ArrOfT s (G.2.2.2.1 25) (etOf 25) := (X.2.2.2.2.2.1.2.1 25 (by decide) (by decide)).1
    show W p l e R s m args below meth c H locs cells slots (hMQ (G, p, l, e, R, s, m, args, below, meth, c) ret mc ms r u1) (F0 m pc ls (vI i :: vR G.1 a :: st))
    conv => arg 16; unfold vR; rw [if_neg (show ¬ a = 0 by have := ha.1.1; omega)]
    refine W.aald X.1 X.2.1 g1 (hA _ _) rfl (fun z => by cases z) (by rw [arrV_size]; exact j2) (v := vR G.1 (hF u a i.toNat)) (by rw [j3, arrV_read _ _ j4]; rfl) rfl rfl hd k9
  · rw [show haR 25 a i f u = none from if_neg ha] at h1
    cases h1
theorem s_aald26 {C : hCx} {cc : ByteArray} {own : String} {nL : Nat} {ret : Option FieldType} {mc ms pc pc2 : Nat} {lv : List (Nat × Value)} {st : List Value} {cells slots : Nat} {a : Nat} {i : Int} {f : Nat → hM} (X : hOK C cc own nL ret) (hd : decode cc pc = .ok (.aaload, 1)) (hp : pc + 1 = pc2) (k : ∀ v, hSim C ret mc ms nL pc2 lv (vR C.1.1 v :: st) cells slots (f v)) : hSim C ret mc ms nL pc lv (vI i :: vR C.1.1 a :: st) cells slots (haR 26 a i f) := by
  subst hp
  obtain ⟨G, p, l, e, R, s, m, args, below, meth, c⟩ := C
  intro u r u1 H locs ls h1 h2 h3 h4
  by_cases ha : hok u a 26 ∧ 0 ≤ i ∧ i < (hN u a : Int)
  · rw [show haR 26 a i f u = f (hF u a i.toNat) u from if_pos ha] at h1
    obtain ⟨g1, g2, g3, -⟩ := hg_row h2 ha.1 (by decide)
    obtain ⟨j1, j2, j3, j4⟩ := hg_ix ha.2.1 ha.2.2 g3
    have k9 := k _ u r u1 H locs ls h1 h2 h3 h4
    have hA : ArrOfT s (G.2.2.2.1 26) (etOf 26) := (X.2.2.2.2.2.1.2.1 26 (by decide) (by decide)).1
    show W p l e R s m args below meth c H locs cells slots (hMQ (G, p, l, e, R, s, m, args, below, meth, c) ret mc ms r u1) (F0 m pc ls (vI i :: vR G.1 a :: st))
    conv => arg 16; unfold vR; rw [if_neg (show ¬ a = 0 by have := ha.1.1; omega)]
    refine W.aald X.1 X.2.1 g1 (hA _ _) rfl (fun z => by cases z) (by rw [arrV_size]; exact j2) (v := vR G.1 (hF u a i.toNat)) (by rw [j3, arrV_read _ _ j4]; rfl) rfl rfl hd k9
  · rw [show haR 26 a i f u = none from if_neg ha] at h1
    cases h1
theorem s_iast {C : hCx} {cc : ByteArray} {own : String} {nL : Nat} {ret : Option FieldType} {mc ms pc pc2 : Nat} {lv : List (Nat × Value)} {st : List Value} {cells slots : Nat} {a : Nat} {i x : Int} {P : hM} (X : hOK C cc own nL ret) (hd : decode cc pc = .ok (.iastore, 1)) (hp : pc + 1 = pc2) (hx : inI x) (k : hSim C ret mc ms nL pc2 lv st cells slots P) : hSim C ret mc ms nL pc lv (vI x :: vI i :: vR C.1.1 a :: st) cells slots (hsI 20 a i x P) := by
  subst hp
  obtain ⟨G, p, l, e, R, s, m, args, below, meth, c⟩ := C
  intro u r u1 H locs ls h1 h2 h3 h4
  by_cases ha : hok u a 20 ∧ 0 ≤ i ∧ i < (hN u a : Int)
  · rw [show hsI 20 a i x P u = P (hsetV u a i.toNat x) from if_pos ha] at h1
    obtain ⟨g1, g2, g3, -⟩ := hg_row h2 ha.1 (by decide)
    obtain ⟨j1, j2, j3, j4⟩ := hg_ix ha.2.1 ha.2.2 g3
    have hA : ArrOfT s (G.2.2.2.1 20) .int := (X.2.2.2.2.2.1.2.1 20 (by decide) (by decide)).1
    show W p l e R s m args below meth c H locs cells slots (hMQ (G, p, l, e, R, s, m, args, below, meth, c) ret mc ms r u1) (F0 m pc ls (vI x :: vI i :: vR G.1 a :: st))
    unfold vR
    rw [if_neg (show ¬ a = 0 by have := ha.1.1; omega)]
    refine W.iast X.1 X.2.1 g1 (hA _ _) (fun z => by cases z) (by rw [arrV_size]; exact j2) rfl rfl hd (fun H2 e1 e2 e3 => ?_)
    exact k _ r u1 H2 _ ls h1 (hR_rowV h2 ha.1 (by decide) (by decide) hx (by rw [e1, j3, arrV_store]; rfl) e2 e3) (t_lc h3 (show G.1 < G.1 + a by have := ha.1.1; omega)) h4
  · rw [show hsI 20 a i x P u = none from if_neg ha] at h1
    cases h1
theorem s_last {C : hCx} {cc : ByteArray} {own : String} {nL : Nat} {ret : Option FieldType} {mc ms pc pc2 : Nat} {lv : List (Nat × Value)} {st : List Value} {cells slots : Nat} {a : Nat} {i x : Int} {P : hM} (X : hOK C cc own nL ret) (hd : decode cc pc = .ok (.lastore, 1)) (hp : pc + 1 = pc2) (hx : inL x) (k : hSim C ret mc ms nL pc2 lv st cells slots P) : hSim C ret mc ms nL pc lv (vL x :: vI i :: vR C.1.1 a :: st) cells slots (hsI 21 a i x P) := by
  subst hp
  obtain ⟨G, p, l, e, R, s, m, args, below, meth, c⟩ := C
  intro u r u1 H locs ls h1 h2 h3 h4
  by_cases ha : hok u a 21 ∧ 0 ≤ i ∧ i < (hN u a : Int)
  · rw [show hsI 21 a i x P u = P (hsetV u a i.toNat x) from if_pos ha] at h1
    obtain ⟨g1, g2, g3, -⟩ := hg_row h2 ha.1 (by decide)
    obtain ⟨j1, j2, j3, j4⟩ := hg_ix ha.2.1 ha.2.2 g3
    have hA : ArrOfT s (G.2.2.2.1 21) .long := (X.2.2.2.2.2.1.2.1 21 (by decide) (by decide)).1
    show W p l e R s m args below meth c H locs cells slots (hMQ (G, p, l, e, R, s, m, args, below, meth, c) ret mc ms r u1) (F0 m pc ls (vL x :: vI i :: vR G.1 a :: st))
    unfold vR
    rw [if_neg (show ¬ a = 0 by have := ha.1.1; omega)]
    refine W.last X.1 X.2.1 g1 (hA _ _) (fun z => by cases z) (by rw [arrV_size]; exact j2) rfl rfl hd (fun H2 e1 e2 e3 => ?_)
    exact k _ r u1 H2 _ ls h1 (hR_rowV h2 ha.1 (by decide) (by decide) hx (by rw [e1, j3, arrV_store]; rfl) e2 e3) (t_lc h3 (show G.1 < G.1 + a by have := ha.1.1; omega)) h4
  · rw [show hsI 21 a i x P u = none from if_neg ha] at h1
    cases h1
theorem s_zast {C : hCx} {cc : ByteArray} {own : String} {nL : Nat} {ret : Option FieldType} {mc ms pc pc2 : Nat} {lv : List (Nat × Value)} {st : List Value} {cells slots : Nat} {a : Nat} {i x : Int} {P : hM} (X : hOK C cc own nL ret) (hd : decode cc pc = .ok (.bastore, 1)) (hp : pc + 1 = pc2) (k : hSim C ret mc ms nL pc2 lv st cells slots P) : hSim C ret mc ms nL pc lv (vI x :: vI i :: vR C.1.1 a :: st) cells slots (hsZ 23 a i x P) := by
  subst hp
  obtain ⟨G, p, l, e, R, s, m, args, below, meth, c⟩ := C
  intro u r u1 H locs ls h1 h2 h3 h4
  by_cases ha : (hok u a 23 ∧ 0 ≤ i ∧ i < (hN u a : Int)) ∧ (x = 0 ∨ x = 1)
  · rw [show hsZ 23 a i x P u = P (hsetV u a i.toNat x) from if_pos ha] at h1
    obtain ⟨g1, g2, g3, -⟩ := hg_row h2 ha.1.1 (by decide)
    obtain ⟨j1, j2, j3, j4⟩ := hg_ix ha.1.2.1 ha.1.2.2 g3
    have hA : ArrOfT s (G.2.2.2.1 23) .boolean := (X.2.2.2.2.2.1.2.1 23 (by decide) (by decide)).1
    show W p l e R s m args below meth c H locs cells slots (hMQ (G, p, l, e, R, s, m, args, below, meth, c) ret mc ms r u1) (F0 m pc ls (vI x :: vI i :: vR G.1 a :: st))
    unfold vR
    rw [if_neg (show ¬ a = 0 by have := ha.1.1.1; omega)]
    refine W.zast X.1 X.2.1 g1 (hA _ _) (fun z => by cases z) (by rw [arrV_size]; exact j2) rfl rfl hd (fun H2 e1 e2 e3 => ?_)
    exact k _ r u1 H2 _ ls h1 (hR_rowV h2 ha.1.1 (by decide) (by decide) ha.2 (by rw [e1, j3, show narrow .boolean (.int (Int32.ofInt x)) = vI x from nar_3 rfl ha.2, arrV_store]; rfl) e2 e3) (t_lc h3 (show G.1 < G.1 + a by have := ha.1.1.1; omega)) h4
  · rw [show hsZ 23 a i x P u = none from if_neg ha] at h1
    cases h1
theorem i2bZ_b (x : Int) : -128 ≤ i2bZ x ∧ i2bZ x ≤ 127 := by
  unfold i2bZ
  rw [Int8.toInt_toInt32]
  have h1 := Int8.le_toInt (Int32.ofInt x).toInt8
  have h2 := Int8.toInt_lt (Int32.ofInt x).toInt8
  constructor <;> omega
theorem s_bast {C : hCx} {cc : ByteArray} {own : String} {nL : Nat} {ret : Option FieldType} {mc ms pc pc2 : Nat} {lv : List (Nat × Value)} {st : List Value} {cells slots : Nat} {a : Nat} {i x : Int} {P : hM} (X : hOK C cc own nL ret) (hd : decode cc pc = .ok (.bastore, 1)) (hp : pc + 1 = pc2) (k : hSim C ret mc ms nL pc2 lv st cells slots P) : hSim C ret mc ms nL pc lv (vI x :: vI i :: vR C.1.1 a :: st) cells slots (hsI 22 a i (i2bZ x) P) := by
  subst hp
  obtain ⟨G, p, l, e, R, s, m, args, below, meth, c⟩ := C
  intro u r u1 H locs ls h1 h2 h3 h4
  by_cases ha : hok u a 22 ∧ 0 ≤ i ∧ i < (hN u a : Int)
  · rw [show hsI 22 a i (i2bZ x) P u = P (hsetV u a i.toNat (i2bZ x)) from if_pos ha] at h1
    obtain ⟨g1, g2, g3, -⟩ := hg_row h2 ha.1 (by decide)
    obtain ⟨j1, j2, j3, j4⟩ := hg_ix ha.2.1 ha.2.2 g3
    have hA : ArrOfT s (G.2.2.2.1 22) .byte := (X.2.2.2.2.2.1.2.1 22 (by decide) (by decide)).1
    show W p l e R s m args below meth c H locs cells slots (hMQ (G, p, l, e, R, s, m, args, below, meth, c) ret mc ms r u1) (F0 m pc ls (vI x :: vI i :: vR G.1 a :: st))
    unfold vR
    rw [if_neg (show ¬ a = 0 by have := ha.1.1; omega)]
    refine W.bast X.1 X.2.1 g1 (hA _ _) (fun z => by cases z) (by rw [arrV_size]; exact j2) rfl rfl hd (fun H2 e1 e2 e3 => ?_)
    exact k _ r u1 H2 _ ls h1 (hR_rowV h2 ha.1 (by decide) (by decide) (i2bZ_b x) (by rw [e1, j3, narrow_byte, show Value.int (Int32.ofInt x).toInt8.toInt32 = vI (i2bZ x) from congrArg Value.int (Int32.ofInt_toInt _).symm, arrV_store]; rfl) e2 e3) (t_lc h3 (show G.1 < G.1 + a by have := ha.1.1; omega)) h4
  · rw [show hsI 22 a i (i2bZ x) P u = none from if_neg ha] at h1
    cases h1
theorem s_alen20 {C : hCx} {cc : ByteArray} {own : String} {nL : Nat} {ret : Option FieldType} {mc ms pc pc2 : Nat} {lv : List (Nat × Value)} {st : List Value} {cells slots : Nat} {a : Nat} {f : Int → hM} (X : hOK C cc own nL ret) (hd : decode cc pc = .ok (.arraylength, 1)) (hp : pc + 1 = pc2) (k : ∀ v, inI v → hSim C ret mc ms nL pc2 lv (vI v :: st) cells slots (f v)) : hSim C ret mc ms nL pc lv (vR C.1.1 a :: st) cells slots (hlen 20 a f) := by
  subst hp
  obtain ⟨G, p, l, e, R, s, m, args, below, meth, c⟩ := C
  intro u r u1 H locs ls h1 h2 h3 h4
  by_cases ha : hok u a 20
  · rw [show hlen 20 a f u = f (hN u a : Int) u from if_pos ha] at h1
    obtain ⟨g1, g2, g3, -⟩ := hg_row h2 ha (by decide)
    have hA : ArrOfT s (G.2.2.2.1 20) .int := (X.2.2.2.2.2.1.2.1 20 (by decide) (by decide)).1
    have k9 := k (hN u a : Int) ⟨by omega, by omega⟩ u r u1 H locs ls h1 h2 h3 h4
    show W p l e R s m args below meth c H locs cells slots (hMQ (G, p, l, e, R, s, m, args, below, meth, c) ret mc ms r u1) (F0 m pc ls (vR G.1 a :: st))
    unfold vR
    rw [if_neg (show ¬ a = 0 by have := ha.1; omega)]
    exact W.alen (n := Int32.ofInt (hN u a : Int)) X.1 X.2.1 g1 (hA _ _) (by rw [arrV_size, Int32.ofInt_eq_ofNat]) rfl rfl hd k9
  · rw [show hlen 20 a f u = none from if_neg ha] at h1
    cases h1
theorem s_alen21 {C : hCx} {cc : ByteArray} {own : String} {nL : Nat} {ret : Option FieldType} {mc ms pc pc2 : Nat} {lv : List (Nat × Value)} {st : List Value} {cells slots : Nat} {a : Nat} {f : Int → hM} (X : hOK C cc own nL ret) (hd : decode cc pc = .ok (.arraylength, 1)) (hp : pc + 1 = pc2) (k : ∀ v, inI v → hSim C ret mc ms nL pc2 lv (vI v :: st) cells slots (f v)) : hSim C ret mc ms nL pc lv (vR C.1.1 a :: st) cells slots (hlen 21 a f) := by
  subst hp
  obtain ⟨G, p, l, e, R, s, m, args, below, meth, c⟩ := C
  intro u r u1 H locs ls h1 h2 h3 h4
  by_cases ha : hok u a 21
  · rw [show hlen 21 a f u = f (hN u a : Int) u from if_pos ha] at h1
    obtain ⟨g1, g2, g3, -⟩ := hg_row h2 ha (by decide)
    have hA : ArrOfT s (G.2.2.2.1 21) .long := (X.2.2.2.2.2.1.2.1 21 (by decide) (by decide)).1
    have k9 := k (hN u a : Int) ⟨by omega, by omega⟩ u r u1 H locs ls h1 h2 h3 h4
    show W p l e R s m args below meth c H locs cells slots (hMQ (G, p, l, e, R, s, m, args, below, meth, c) ret mc ms r u1) (F0 m pc ls (vR G.1 a :: st))
    unfold vR
    rw [if_neg (show ¬ a = 0 by have := ha.1; omega)]
    exact W.alen (n := Int32.ofInt (hN u a : Int)) X.1 X.2.1 g1 (hA _ _) (by rw [arrV_size, Int32.ofInt_eq_ofNat]) rfl rfl hd k9
  · rw [show hlen 21 a f u = none from if_neg ha] at h1
    cases h1
