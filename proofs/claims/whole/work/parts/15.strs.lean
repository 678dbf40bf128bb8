/-! the String constants -/
def vS (G : hG) (j : Nat) : Value := .ref (G.2.2.2.2.1 j)
def vT (G : hG) (j : Nat) : Value := .ref (G.2.2.2.2.2 j)
def hfail : hM := fun _ => none
def hgd7 (j : Nat) (P : hM) : hM := fun u => if j < 7 then P u else none
def hTlen (j : Nat) (f : Int → hM) : hM := fun u => if j < 7 then f (strN.getD j 0 : Int) u else none
def hTch (j : Nat) (i : Int) (f : Int → hM) : hM := fun u => if j < 7 ∧ 0 ≤ i ∧ i < (strN.getD j 0 : Int) then f ((strB.getD j []).getD i.toNat 0).toInt u else none
theorem vS_cat2 (G : hG) (j : Nat) : (vS G j).category = 1 := rfl
theorem vT_cat2 (G : hG) (j : Nat) : (vT G j).category = 1 := rfl
theorem hbase {G : hG} {u : hS} {H : Heap} {s : State} (h2 : hR G u H) (h8 : hT G s) : ∀ a : Nat, a < G.2.1.size → ¬ hA G a → H[a]? = G.2.1[a]? := fun a _ ha => h2.2.2.1 a (Nat.not_lt.mp ha)
theorem strN_lt : ∀ j, j < 7 → strN.getD j 0 < 100 := by decide
theorem s_ldcS {C : hCx} {cc : ByteArray} {own : String} {nL : Nat} {ret : Option FieldType} {mc ms pc pc2 : Nat} {lv : List (Nat × Value)} {st : List Value} {cells slots : Nat} {i j : Nat} {tx : String} {P : hM} (X : hOK C cc own nL ret) (hd : decode cc pc = .ok (.ldc i, 2)) (hp : pc + 2 = pc2) (hj : strT[j]? = some (own, i, tx)) (k : hSim C ret mc ms nL pc2 lv (vS C.1 j :: st) cells slots P) : hSim C ret mc ms nL pc lv st cells slots P := by
  subst hp
  obtain ⟨G, p, l, e, R, s, m, args, below, meth, c⟩ := C
  intro u r u1 H locs ls h1 h2 h3 h4
  exact va_ldcS X.1 X.2.1 X.2.2.2.1 (X.2.2.2.2.2.1.2.2.2.1.2.1 j _ hj) hd (k u r u1 H locs ls h1 h2 h3 h4)
theorem s_sload_n2 {C : hCx} {cc : ByteArray} {own : String} {nL : Nat} {ret : Option FieldType} {mc ms pc pc2 : Nat} {lv : List (Nat × Value)} {st : List Value} {cells slots : Nat} {k0 : Fin 4} {j x : Nat} {P : hM} (X : hOK C cc own nL ret) (hd : decode cc pc = .ok (.aload_n k0, 1)) (hp : pc + 1 = pc2) (hj : lv[j]? = some (k0.val, vS C.1 x)) (k : hSim C ret mc ms nL pc2 lv (vS C.1 x :: st) cells slots P) : hSim C ret mc ms nL pc lv st cells slots P := by
  subst hp
  obtain ⟨G, p, l, e, R, s, m, args, below, meth, c⟩ := C
  intro u r u1 H locs ls h1 h2 h3 h4
  exact lv_aload_n X.1 X.2.1 hd rfl (lv_at h4 j hj) (k u r u1 H locs ls h1 h2 h3 h4)
theorem s_tload_n2 {C : hCx} {cc : ByteArray} {own : String} {nL : Nat} {ret : Option FieldType} {mc ms pc pc2 : Nat} {lv : List (Nat × Value)} {st : List Value} {cells slots : Nat} {k0 : Fin 4} {j x : Nat} {P : hM} (X : hOK C cc own nL ret) (hd : decode cc pc = .ok (.aload_n k0, 1)) (hp : pc + 1 = pc2) (hj : lv[j]? = some (k0.val, vT C.1 x)) (k : hSim C ret mc ms nL pc2 lv (vT C.1 x :: st) cells slots P) : hSim C ret mc ms nL pc lv st cells slots P := by
  subst hp
  obtain ⟨G, p, l, e, R, s, m, args, below, meth, c⟩ := C
  intro u r u1 H locs ls h1 h2 h3 h4
  exact lv_aload_n X.1 X.2.1 hd rfl (lv_at h4 j hj) (k u r u1 H locs ls h1 h2 h3 h4)
theorem s_sload2 {C : hCx} {cc : ByteArray} {own : String} {nL : Nat} {ret : Option FieldType} {mc ms pc pc2 : Nat} {lv : List (Nat × Value)} {st : List Value} {cells slots : Nat} {i j x : Nat} {P : hM} (X : hOK C cc own nL ret) (hd : decode cc pc = .ok (.aload i, 2)) (hp : pc + 2 = pc2) (hj : lv[j]? = some (i, vS C.1 x)) (k : hSim C ret mc ms nL pc2 lv (vS C.1 x :: st) cells slots P) : hSim C ret mc ms nL pc lv st cells slots P := by
  subst hp
  obtain ⟨G, p, l, e, R, s, m, args, below, meth, c⟩ := C
  intro u r u1 H locs ls h1 h2 h3 h4
  exact lv_aload X.1 X.2.1 hd (lv_at h4 j hj) (k u r u1 H locs ls h1 h2 h3 h4)
theorem s_tload2 {C : hCx} {cc : ByteArray} {own : String} {nL : Nat} {ret : Option FieldType} {mc ms pc pc2 : Nat} {lv : List (Nat × Value)} {st : List Value} {cells slots : Nat} {i j x : Nat} {P : hM} (X : hOK C cc own nL ret) (hd : decode cc pc = .ok (.aload i, 2)) (hp : pc + 2 = pc2) (hj : lv[j]? = some (i, vT C.1 x)) (k : hSim C ret mc ms nL pc2 lv (vT C.1 x :: st) cells slots P) : hSim C ret mc ms nL pc lv st cells slots P := by
  subst hp
  obtain ⟨G, p, l, e, R, s, m, args, below, meth, c⟩ := C
  intro u r u1 H locs ls h1 h2 h3 h4
  exact lv_aload X.1 X.2.1 hd (lv_at h4 j hj) (k u r u1 H locs ls h1 h2 h3 h4)
theorem s_gets1 {C : hCx} {cc : ByteArray} {own : String} {nL : Nat} {ret : Option FieldType} {mc ms pc pc2 : Nat} {lv : List (Nat × Value)} {st : List Value} {cells slots : Nat} {idx : Nat} {P : hM} (X : hOK C cc own nL ret) (hd : decode cc pc = .ok (.getstatic idx, 3)) (hp : pc + 3 = pc2) (hl : Cond.fieldLink own idx "java/lang/String" "COMPACT_STRINGS" "Z" ∈ tG) (k : hSim C ret mc ms nL pc2 lv (vI 1 :: st) cells slots P) : hSim C ret mc ms nL pc lv st cells slots P := by
  subst hp
  obtain ⟨G, p, l, e, R, s, m, args, below, meth, c⟩ := C
  intro u r u1 H locs ls h1 h2 h3 h4
  have x6 := X.2.2.2.2.2.1
  obtain ⟨cf, kf, fi, f, a, cell, q1, q2, q3, q4, q5, q6, q7, q8⟩ := (x6.2.2.2.1.2.2.1).kept (hbase h2 x6)
  exact W.gets X.1 X.2.1 X.2.2.2.1 (X.2.2.2.2.1 _ hl) q1 q2 q3 q4 q5 (fun e => by rw [e] at q6; cases q6) q7 rfl hd (k u r u1 H locs ls h1 h2 h3 h4)
theorem s_gval {C : hCx} {cc : ByteArray} {own : String} {nL : Nat} {ret : Option FieldType} {mc ms pc pc2 : Nat} {lv : List (Nat × Value)} {st : List Value} {cells slots : Nat} {idx j : Nat} {P : hM} (X : hOK C cc own nL ret) (hd : decode cc pc = .ok (.getfield idx, 3)) (hp : pc + 3 = pc2) (hl : Cond.fieldLink own idx "java/lang/String" "value" "[B" ∈ tG) (k : hSim C ret mc ms nL pc2 lv (vT C.1 j :: st) cells slots P) : hSim C ret mc ms nL pc lv (vS C.1 j :: st) cells slots (hgd7 j P) := by
  subst hp
  obtain ⟨G, p, l, e, R, s, m, args, below, meth, c⟩ := C
  intro u r u1 H locs ls h1 h2 h3 h4
  by_cases hj : j < 7
  · rw [show hgd7 j P u = P u from if_pos hj] at h1
    have x6 := X.2.2.2.2.2.1
    obtain ⟨cf, kk, fi, f, cell, q1, q2, q3, q4, q5, q6⟩ := (x6.2.2.2.1.1.1 j hj).2.2.1.kept (hbase h2 x6)
    exact W.getf X.1 X.2.1 X.2.2.2.1 (X.2.2.2.2.1 _ hl) q1 q2 q3 q4 q5 rfl rfl hd (k u r u1 H locs ls h1 h2 h3 h4)
  · rw [show hgd7 j P u = none from if_neg hj] at h1
    cases h1
theorem s_gcod {C : hCx} {cc : ByteArray} {own : String} {nL : Nat} {ret : Option FieldType} {mc ms pc pc2 : Nat} {lv : List (Nat × Value)} {st : List Value} {cells slots : Nat} {idx j : Nat} {P : hM} (X : hOK C cc own nL ret) (hd : decode cc pc = .ok (.getfield idx, 3)) (hp : pc + 3 = pc2) (hl : Cond.fieldLink own idx "java/lang/String" "coder" "B" ∈ tG) (k : hSim C ret mc ms nL pc2 lv (vI 0 :: st) cells slots P) : hSim C ret mc ms nL pc lv (vS C.1 j :: st) cells slots (hgd7 j P) := by
  subst hp
  obtain ⟨G, p, l, e, R, s, m, args, below, meth, c⟩ := C
  intro u r u1 H locs ls h1 h2 h3 h4
  by_cases hj : j < 7
  · rw [show hgd7 j P u = P u from if_pos hj] at h1
    have x6 := X.2.2.2.2.2.1
    obtain ⟨cf, kk, fi, f, cell, q1, q2, q3, q4, q5, q6⟩ := (x6.2.2.2.1.1.1 j hj).2.1.kept (hbase h2 x6)
    exact W.getf X.1 X.2.1 X.2.2.2.1 (X.2.2.2.2.1 _ hl) q1 q2 q3 q4 q5 rfl rfl hd (k u r u1 H locs ls h1 h2 h3 h4)
  · rw [show hgd7 j P u = none from if_neg hj] at h1
    cases h1
theorem s_lenT {C : hCx} {cc : ByteArray} {own : String} {nL : Nat} {ret : Option FieldType} {mc ms pc pc2 : Nat} {lv : List (Nat × Value)} {st : List Value} {cells slots : Nat} {j : Nat} {f : Int → hM} (X : hOK C cc own nL ret) (hd : decode cc pc = .ok (.arraylength, 1)) (hp : pc + 1 = pc2) (k : ∀ v, inI v → hSim C ret mc ms nL pc2 lv (vI v :: st) cells slots (f v)) : hSim C ret mc ms nL pc lv (vT C.1 j :: st) cells slots (hTlen j f) := by
  subst hp
  obtain ⟨G, p, l, e, R, s, m, args, below, meth, c⟩ := C
  intro u r u1 H locs ls h1 h2 h3 h4
  by_cases hj : j < 7
  · rw [show hTlen j f u = f (strN.getD j 0 : Int) u from if_pos hj] at h1
    have x6 := X.2.2.2.2.2.1
    obtain ⟨cell, q1, q2, q3, q4, q5, q6, q7⟩ := (x6.2.2.2.1.1.1 j hj).2.2.2.kept (hbase h2 x6)
    have hlt := strN_lt j hj
    exact W.alen (n := Int32.ofInt (strN.getD j 0 : Int)) X.1 X.2.1 q1 q2 (by rw [q5, Int32.ofInt_eq_ofNat]) rfl rfl hd (k _ ⟨by omega, by omega⟩ u r u1 H locs ls h1 h2 h3 h4)
  · rw [show hTlen j f u = none from if_neg hj] at h1
    cases h1
theorem s_baldT {C : hCx} {cc : ByteArray} {own : String} {nL : Nat} {ret : Option FieldType} {mc ms pc pc2 : Nat} {lv : List (Nat × Value)} {st : List Value} {cells slots : Nat} {j : Nat} {i : Int} {f : Int → hM} (X : hOK C cc own nL ret) (hd : decode cc pc = .ok (.baload, 1)) (hp : pc + 1 = pc2) (k : ∀ v, inI v → hSim C ret mc ms nL pc2 lv (vI v :: st) cells slots (f v)) : hSim C ret mc ms nL pc lv (vI i :: vT C.1 j :: st) cells slots (hTch j i f) := by
  subst hp
  obtain ⟨G, p, l, e, R, s, m, args, below, meth, c⟩ := C
  intro u r u1 H locs ls h1 h2 h3 h4
  by_cases hj : j < 7 ∧ 0 ≤ i ∧ i < (strN.getD j 0 : Int)
  · rw [show hTch j i f u = f ((strB.getD j []).getD i.toNat 0).toInt u from if_pos hj] at h1
    have x6 := X.2.2.2.2.2.1
    obtain ⟨cell, q1, q2, q3, q4, q5, q6, q7⟩ := (x6.2.2.2.1.1.1 j hj.1).2.2.2.kept (hbase h2 x6)
    have hlt := strN_lt j hj.1
    obtain ⟨j1, j2, j3, j4⟩ := hg_ix hj.2.1 hj.2.2 (by omega)
    have k9 := k _ (toI_in _) u r u1 H locs ls h1 h2 h3 h4
    unfold vI at k9
    rw [Int32.ofInt_toInt] at k9
    exact W.bald (v := .int ((strB.getD j []).getD i.toNat 0)) X.1 X.2.1 q1 q2 q3 (fun z => j2 (z.imp id (fun z => Nat.le_trans q4 z))) (by rw [j3]; exact q6 _ j4) rfl rfl hd k9
  · rw [show hTch j i f u = none from if_neg hj] at h1
    cases h1
theorem s_callTI {C : hCx} {cc cc2 : ByteArray} {own : String} {nL : Nat} {ret : Option FieldType} {mc ms pc pc2 : Nat} {lv : List (Nat × Value)} {st stk : List Value} {cells slots : Nat} {idx j n maxL2 d2 : Nat} {y : MethodName} {As : List Value} {g : hM} {f : Int → hM} (X : hOK C cc own nL ret) (hd : decode cc pc = .ok (.invokevirtual idx, 3)) (hp : pc + 3 = pc2) (hl : Cond.methodLink own idx y ∈ tG) (hi : Cond.instanceMethod y ∈ tG) (hsl : Cond.selects y.cls y y ∈ tG) (hcn : y.cls = "java/lang/String") (hM : hMet C.1 C.2.2.1 y cc2 maxL2 (some .int) d2 0 0 (vS C.1 j :: As) g) (hY2 : hY y cc2 maxL2 (some .int) n) (hn : As.length = n) (hs : stk = As.reverse ++ vS C.1 j :: st) (hf : d2 + 1 ≤ C.2.2.2.2.1.frames) (hlo : 50 * d2 + 50 ≤ C.2.2.2.2.1.locals) (hst : (st.map fun v => v.category).sum ≤ 8) (hcs : cells ≤ C.2.2.2.2.1.cells ∧ slots ≤ C.2.2.2.2.1.slots) (k : ∀ v, inI v → hSim C ret mc ms nL pc2 lv (vI v :: st) cells slots (f v)) : hSim C ret mc ms nL pc lv stk cells slots (hgd7 j (hcall g f)) := by
  subst hp
  subst hs
  obtain ⟨G, p, l, e, R, s, m, args, below, meth, c⟩ := C
  intro u r u1 H locs ls h1 h2 h3 h4
  by_cases hj : j < 7
  · rw [show hgd7 j (hcall g f) u = hcall g f u from if_pos hj] at h1
    cases hg : g u with
    | none => rw [show hcall g f u = none by unfold hcall; rw [hg]] at h1; cases h1
    | some w =>
      obtain ⟨r2, u2⟩ := w
      rw [show hcall g f u = f r2 u2 by unfold hcall; rw [hg]] at h1
      have cb := hg_cb (mc2 := 0) (ms2 := 0) X hY2 hl hf hlo
      have x5 := X.2.2.2.2.1
      have x6 := X.2.2.2.2.2.1
      have hMM := hM u r2 u2 hg
      obtain ⟨cell, q1, q2, q3, q4⟩ := (x6.2.2.2.1.1.1 j hj).1.kept (hbase h2 x6)
      have hr := va_runV (C := y.cls) (rest := st) (As := As) (g := F0 m pc ls (As.reverse ++ .ref (G.2.2.2.2.1 j) :: st)) (locs := locs) (cells := cells) (slots := slots) (e := e) (below := below) (meth := meth) (H := H) (b := G.2.2.2.2.1 j) ⟨X.1, X.2.1, X.2.2.1, X.2.2.2.1, x5⟩ hMM ⟨cb, x5 _ hi, x5 _ hsl⟩ ⟨hPc_blind, ⟨cell, q1, q2, by rw [hcn]; exact q3⟩, fun U hU hW => ⟨rfl, hT.warm hW x6, by rw [hU]; exact h2⟩⟩ rfl hn h4.1 rfl (lv_room hst) hd ⟨hcs.1, hcs.2⟩
      exact hg_run hr h3 (fun H2 locs2 z r2 r3 => k _ z _ r u1 H2 locs2 ls h1 r2 r3 h4)
  · rw [show hgd7 j (hcall g f) u = none from if_neg hj] at h1
    cases h1
theorem s_callTZ {C : hCx} {cc cc2 : ByteArray} {own : String} {nL : Nat} {ret : Option FieldType} {mc ms pc pc2 : Nat} {lv : List (Nat × Value)} {st stk : List Value} {cells slots : Nat} {idx j n maxL2 d2 : Nat} {y : MethodName} {As : List Value} {g : hM} {f : Int → hM} (X : hOK C cc own nL ret) (hd : decode cc pc = .ok (.invokevirtual idx, 3)) (hp : pc + 3 = pc2) (hl : Cond.methodLink own idx y ∈ tG) (hi : Cond.instanceMethod y ∈ tG) (hsl : Cond.selects y.cls y y ∈ tG) (hcn : y.cls = "java/lang/String") (hM : hMet C.1 C.2.2.1 y cc2 maxL2 (some .boolean) d2 0 0 (vS C.1 j :: As) g) (hY2 : hY y cc2 maxL2 (some .boolean) n) (hn : As.length = n) (hs : stk = As.reverse ++ vS C.1 j :: st) (hf : d2 + 1 ≤ C.2.2.2.2.1.frames) (hlo : 50 * d2 + 50 ≤ C.2.2.2.2.1.locals) (hst : (st.map fun v => v.category).sum ≤ 8) (hcs : cells ≤ C.2.2.2.2.1.cells ∧ slots ≤ C.2.2.2.2.1.slots) (k : ∀ v, inI v → hSim C ret mc ms nL pc2 lv (vI v :: st) cells slots (f v)) : hSim C ret mc ms nL pc lv stk cells slots (hgd7 j (hcall g f)) := by
  subst hp
  subst hs
  obtain ⟨G, p, l, e, R, s, m, args, below, meth, c⟩ := C
  intro u r u1 H locs ls h1 h2 h3 h4
  by_cases hj : j < 7
  · rw [show hgd7 j (hcall g f) u = hcall g f u from if_pos hj] at h1
    cases hg : g u with
    | none => rw [show hcall g f u = none by unfold hcall; rw [hg]] at h1; cases h1
    | some w =>
      obtain ⟨r2, u2⟩ := w
      rw [show hcall g f u = f r2 u2 by unfold hcall; rw [hg]] at h1
      have cb := hg_cb (mc2 := 0) (ms2 := 0) X hY2 hl hf hlo
      have x5 := X.2.2.2.2.1
      have x6 := X.2.2.2.2.2.1
      have hMM := hM u r2 u2 hg
      obtain ⟨cell, q1, q2, q3, q4⟩ := (x6.2.2.2.1.1.1 j hj).1.kept (hbase h2 x6)
      have hr := va_runV (C := y.cls) (rest := st) (As := As) (g := F0 m pc ls (As.reverse ++ .ref (G.2.2.2.2.1 j) :: st)) (locs := locs) (cells := cells) (slots := slots) (e := e) (below := below) (meth := meth) (H := H) (b := G.2.2.2.2.1 j) ⟨X.1, X.2.1, X.2.2.1, X.2.2.2.1, x5⟩ hMM ⟨cb, x5 _ hi, x5 _ hsl⟩ ⟨hPc_blind, ⟨cell, q1, q2, by rw [hcn]; exact q3⟩, fun U hU hW => ⟨rfl, hT.warm hW x6, by rw [hU]; exact h2⟩⟩ rfl hn h4.1 rfl (lv_room hst) hd ⟨hcs.1, hcs.2⟩
      exact hg_run hr h3 (fun H2 locs2 z r2 r3 => k _ (by rcases z with z | z <;> rw [z] <;> exact inI_c _ rfl) _ r u1 H2 locs2 ls h1 r2 r3 h4)
  · rw [show hgd7 j (hcall g f) u = none from if_neg hj] at h1
    cases h1
theorem s_callTB {C : hCx} {cc cc2 : ByteArray} {own : String} {nL : Nat} {ret : Option FieldType} {mc ms pc pc2 : Nat} {lv : List (Nat × Value)} {st stk : List Value} {cells slots : Nat} {idx j n maxL2 d2 : Nat} {y : MethodName} {As : List Value} {g : hM} {f : Int → hM} (X : hOK C cc own nL ret) (hd : decode cc pc = .ok (.invokevirtual idx, 3)) (hp : pc + 3 = pc2) (hl : Cond.methodLink own idx y ∈ tG) (hi : Cond.instanceMethod y ∈ tG) (hsl : Cond.selects y.cls y y ∈ tG) (hcn : y.cls = "java/lang/String") (hM : hMet C.1 C.2.2.1 y cc2 maxL2 (some .byte) d2 0 0 (vS C.1 j :: As) g) (hY2 : hY y cc2 maxL2 (some .byte) n) (hn : As.length = n) (hs : stk = As.reverse ++ vS C.1 j :: st) (hf : d2 + 1 ≤ C.2.2.2.2.1.frames) (hlo : 50 * d2 + 50 ≤ C.2.2.2.2.1.locals) (hst : (st.map fun v => v.category).sum ≤ 8) (hcs : cells ≤ C.2.2.2.2.1.cells ∧ slots ≤ C.2.2.2.2.1.slots) (k : ∀ v, inI v → hSim C ret mc ms nL pc2 lv (vI v :: st) cells slots (f v)) : hSim C ret mc ms nL pc lv stk cells slots (hgd7 j (hcall g f)) := by
  subst hp
  subst hs
  obtain ⟨G, p, l, e, R, s, m, args, below, meth, c⟩ := C
  intro u r u1 H locs ls h1 h2 h3 h4
  by_cases hj : j < 7
  · rw [show hgd7 j (hcall g f) u = hcall g f u from if_pos hj] at h1
    cases hg : g u with
    | none => rw [show hcall g f u = none by unfold hcall; rw [hg]] at h1; cases h1
    | some w =>
      obtain ⟨r2, u2⟩ := w
      rw [show hcall g f u = f r2 u2 by unfold hcall; rw [hg]] at h1
      have cb := hg_cb (mc2 := 0) (ms2 := 0) X hY2 hl hf hlo
      have x5 := X.2.2.2.2.1
      have x6 := X.2.2.2.2.2.1
      have hMM := hM u r2 u2 hg
      obtain ⟨cell, q1, q2, q3, q4⟩ := (x6.2.2.2.1.1.1 j hj).1.kept (hbase h2 x6)
      have hr := va_runV (C := y.cls) (rest := st) (As := As) (g := F0 m pc ls (As.reverse ++ .ref (G.2.2.2.2.1 j) :: st)) (locs := locs) (cells := cells) (slots := slots) (e := e) (below := below) (meth := meth) (H := H) (b := G.2.2.2.2.1 j) ⟨X.1, X.2.1, X.2.2.1, X.2.2.2.1, x5⟩ hMM ⟨cb, x5 _ hi, x5 _ hsl⟩ ⟨hPc_blind, ⟨cell, q1, q2, by rw [hcn]; exact q3⟩, fun U hU hW => ⟨rfl, hT.warm hW x6, by rw [hU]; exact h2⟩⟩ rfl hn h4.1 rfl (lv_room hst) hd ⟨hcs.1, hcs.2⟩
      exact hg_run hr h3 (fun H2 locs2 z r2 r3 => k _ ⟨by have := z.1; omega, by have := z.2; omega⟩ _ r u1 H2 locs2 ls h1 r2 r3 h4)
  · rw [show hgd7 j (hcall g f) u = none from if_neg hj] at h1
    cases h1
theorem s_callTC {C : hCx} {cc cc2 : ByteArray} {own : String} {nL : Nat} {ret : Option FieldType} {mc ms pc pc2 : Nat} {lv : List (Nat × Value)} {st stk : List Value} {cells slots : Nat} {idx j n maxL2 d2 : Nat} {y : MethodName} {As : List Value} {g : hM} {f : Int → hM} (X : hOK C cc own nL ret) (hd : decode cc pc = .ok (.invokevirtual idx, 3)) (hp : pc + 3 = pc2) (hl : Cond.methodLink own idx y ∈ tG) (hi : Cond.instanceMethod y ∈ tG) (hsl : Cond.selects y.cls y y ∈ tG) (hcn : y.cls = "java/lang/String") (hM : hMet C.1 C.2.2.1 y cc2 maxL2 (some .char) d2 0 0 (vS C.1 j :: As) g) (hY2 : hY y cc2 maxL2 (some .char) n) (hn : As.length = n) (hs : stk = As.reverse ++ vS C.1 j :: st) (hf : d2 + 1 ≤ C.2.2.2.2.1.frames) (hlo : 50 * d2 + 50 ≤ C.2.2.2.2.1.locals) (hst : (st.map fun v => v.category).sum ≤ 8) (hcs : cells ≤ C.2.2.2.2.1.cells ∧ slots ≤ C.2.2.2.2.1.slots) (k : ∀ v, inI v → hSim C ret mc ms nL pc2 lv (vI v :: st) cells slots (f v)) : hSim C ret mc ms nL pc lv stk cells slots (hgd7 j (hcall g f)) := by
  subst hp
  subst hs
  obtain ⟨G, p, l, e, R, s, m, args, below, meth, c⟩ := C
  intro u r u1 H locs ls h1 h2 h3 h4
  by_cases hj : j < 7
  · rw [show hgd7 j (hcall g f) u = hcall g f u from if_pos hj] at h1
    cases hg : g u with
    | none => rw [show hcall g f u = none by unfold hcall; rw [hg]] at h1; cases h1
    | some w =>
      obtain ⟨r2, u2⟩ := w
      rw [show hcall g f u = f r2 u2 by unfold hcall; rw [hg]] at h1
      have cb := hg_cb (mc2 := 0) (ms2 := 0) X hY2 hl hf hlo
      have x5 := X.2.2.2.2.1
      have x6 := X.2.2.2.2.2.1
      have hMM := hM u r2 u2 hg
      obtain ⟨cell, q1, q2, q3, q4⟩ := (x6.2.2.2.1.1.1 j hj).1.kept (hbase h2 x6)
      have hr := va_runV (C := y.cls) (rest := st) (As := As) (g := F0 m pc ls (As.reverse ++ .ref (G.2.2.2.2.1 j) :: st)) (locs := locs) (cells := cells) (slots := slots) (e := e) (below := below) (meth := meth) (H := H) (b := G.2.2.2.2.1 j) ⟨X.1, X.2.1, X.2.2.1, X.2.2.2.1, x5⟩ hMM ⟨cb, x5 _ hi, x5 _ hsl⟩ ⟨hPc_blind, ⟨cell, q1, q2, by rw [hcn]; exact q3⟩, fun U hU hW => ⟨rfl, hT.warm hW x6, by rw [hU]; exact h2⟩⟩ rfl hn h4.1 rfl (lv_room hst) hd ⟨hcs.1, hcs.2⟩
      exact hg_run hr h3 (fun H2 locs2 z r2 r3 => k _ ⟨by have := z.1; omega, by have := z.2; omega⟩ _ r u1 H2 locs2 ls h1 r2 r3 h4)
  · rw [show hgd7 j (hcall g f) u = none from if_neg hj] at h1
    cases h1
def hretC (x : Int) : hM := fun u => if 0 ≤ x ∧ x < 65536 then some (x, u) else none
def hretB (x : Int) : hM := fun u => if -128 ≤ x ∧ x ≤ 127 then some (x, u) else none
theorem nar_c {x : Int} (h : 0 ≤ x ∧ x < 65536) : narrow .char (.int (Int32.ofInt x)) = .int (Int32.ofInt x) := by
  have e : Int32.ofInt x = nI x.toNat := by
    unfold nI
    rw [← Int32.ofInt_eq_ofNat]
    congr 1
    omega
  rw [e]
  exact (pk_charN (q := x.toNat) (by omega)).1
theorem nar_b {x : Int} (h : -128 ≤ x ∧ x ≤ 127) : narrow .byte (.int (Int32.ofInt x)) = .int (Int32.ofInt x) := by
  rw [narrow_byte]
  congr 1
  apply Int32.toInt_inj.mp
  rw [Int8.toInt_toInt32, Int32.toInt_toInt8, ofI_to (by constructor <;> omega)]
  exact Int.bmod_eq_of_le (by omega) (by omega)
theorem s_cret {C : hCx} {cc : ByteArray} {own : String} {nL pc : Nat} {lv : List (Nat × Value)} {cells slots : Nat} (X : hOK C cc own nL (some .char)) {x : Int} (hd : decode cc pc = .ok (.ireturn, 1)) : hSim C (some .char) cells slots nL pc lv [vI x] cells slots (hretC x) := by
  obtain ⟨G, p, l, e, R, s, m, args, below, meth, c⟩ := C
  intro u r u1 H locs ls h1 h2 h3 h4
  obtain ⟨x1, x2, x3, x4, x5, x6, x7, x8⟩ := X
  by_cases hx : 0 ≤ x ∧ x < 65536
  · rw [show hretC x u = some (x, u) from if_pos hx] at h1
    cases h1
    exact W.zret x1 x2 x7 (nar_c hx) (fun t ht hW => ⟨rfl, hx, by rw [ht]; exact h2⟩) h3 hd x8
  · rw [show hretC x u = none from if_neg hx] at h1
    cases h1
theorem s_bret {C : hCx} {cc : ByteArray} {own : String} {nL pc : Nat} {lv : List (Nat × Value)} {cells slots : Nat} (X : hOK C cc own nL (some .byte)) {x : Int} (hd : decode cc pc = .ok (.ireturn, 1)) : hSim C (some .byte) cells slots nL pc lv [vI x] cells slots (hretB x) := by
  obtain ⟨G, p, l, e, R, s, m, args, below, meth, c⟩ := C
  intro u r u1 H locs ls h1 h2 h3 h4
  obtain ⟨x1, x2, x3, x4, x5, x6, x7, x8⟩ := X
  by_cases hx : -128 ≤ x ∧ x ≤ 127
  · rw [show hretB x u = some (x, u) from if_pos hx] at h1
    cases h1
    exact W.zret x1 x2 x7 (nar_b hx) (fun t ht hW => ⟨rfl, hx, by rw [ht]; exact h2⟩) h3 hd x8
  · rw [show hretB x u = none from if_neg hx] at h1
    cases h1
