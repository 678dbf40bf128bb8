/-! contracts and calls -/
def hRm (d mc ms : Nat) : Room := { frames := d, cells := mc, slots := ms, locals := 50 * d }
def hMet (G : hG) (l : Launch) (y : MethodName) (cc : ByteArray) (maxL : Nat) (ret : Option FieldType) (d mc ms : Nat) (av : List Value) (P : hM) : Prop :=
  ∀ (u : hS) (r : Int) (u2 : hS), P u = some (r, u2) → Met l y (Cond.code y cc maxL ret :: tG) (hRm d mc ms) (va_Pc av (fun U => hT G U ∧ hR G u U.heap)) (hQc G ret r u2) mc ms (hA G)
def hY (y : MethodName) (cc : ByteArray) (maxL : Nat) (ret : Option FieldType) (n : Nat) : Prop := Cond.code y cc maxL ret ∈ tG ∧ Cond.initialized y.cls ∈ tG ∧ (y.cls ≠ "java/lang/invoke/MethodHandle" ∧ y.cls ≠ "java/lang/invoke/VarHandle" ∧ (parseMethodDescriptor y.desc).map (fun d => d.parameters.length) = some n) ∧ maxL ≤ 31
def hCtx (G : hG) (l : Launch) (d mc ms : Nat) (nm : String) (C : hCx) : Prop := C.1 = G ∧ C.2.2.1 = l ∧ C.2.2.2.2.1 = hRm d mc ms ∧ C.2.2.2.2.2.2.2.2.2.1.name = nm
theorem vI_cat (x : Int) : (vI x).category = 1 := rfl
theorem vL_cat (x : Int) : (vL x).category = 2 := rfl
theorem vS_cat (x : Nat) : (Value.ref x).category = 1 := rfl
theorem hMet.of {G : hG} {l : Launch} {y : MethodName} {cc : ByteArray} {maxL : Nat} {ret : Option FieldType} {d mc ms : Nat} {av : List Value} {P : hM} {lv : List (Nat × Value)} (hy : plainName y.cls = true) (hav : (lg_sl av).length ≤ maxL) (hlv : lv_args 0 av = lv)
    (h : ∀ C : hCx, hCtx G l d mc ms y.name C → hOK C cc y.cls maxL ret → hSim C ret mc ms maxL 0 lv [] 0 0 P) : hMet G l y cc maxL ret d mc ms av P := by
  intro u r u2 hP
  refine Met.ofW (cc := cc) (maxL := maxL) (ret := ret) hy rfl ?_
  intro p e s m args below meth c s₁ B hml hv
  obtain ⟨rfl, hT0, hR0⟩ := hv
  have hts := atoms_spec (ws := Cond.code y cc maxL ret :: tG) B.pre
  have hown : s.vm.findClass y.cls = some m.cls := findClass_of_methodNamed B.named
  have hin : meth.name = y.name := (name_of_methodNamed B.named B.method).1
  have hl := lv_entry av (n := maxL) hav
  rw [lg_entry_eq]
  generalize (lg_sl av ++ List.replicate (maxL - (lg_sl av).length) Slot.unset).toArray = ls at hl ⊢
  rw [hlv] at hl
  exact h (G, p, l, e, hRm d mc ms, s, m, av.toArray, below, meth, c) ⟨rfl, rfl, rfl, hin⟩ ⟨B.exec, B.bytes, hml, hown, fun w hw => hts w (List.mem_cons_of_mem _ hw), hT0, B.returns, B.notSynchronized⟩ u r u2 s.heap [] ls hP hR0 (fun q hq => absurd hq List.not_mem_nil) hl
section HC
variable {p : Program} {l : Launch} {e : Env} {R : Room} {s : State} {m : MethodId} {args : Array Value} {below : List Frame} {meth : Method} {c : Code} {H : Heap} {locs : List Loc} {cells slots : Nat} {Q : State → Prop}
variable {cc cc2 : ByteArray} {own : String} {nL maxL2 : Nat} {ret ret2 : Option FieldType} {G : hG} {u u2 : hS} {pc idx mc2 ms2 d2 n : Nat} {ls : Array Slot} {st stk : List Value} {r2 : Int} {y : MethodName} {aa : Array Value}
theorem hg_run (hr : va_Run p l e R s m args below meth c H locs cells slots mc2 ms2 (F0 m pc ls stk) st (hQc G ret2 r2 u2 aa) (hA G)) (h3 : ∀ q ∈ locs, hA G q.base)
    (kk : ∀ (H2 : Heap) (locs2 : List Loc), hrin ret2 r2 → hR G u2 H2 → (∀ q ∈ locs2, hA G q.base) → W p l e R s m args below meth c H2 locs2 (cells + mc2) (slots + ms2) Q (F0 m (pc + 3) ls ((hrv ret2 r2).toList ++ st))) : W p l e R s m args below meth c H locs cells slots Q (F0 m pc ls stk) := by
  intro T hT X
  obtain ⟨v, st₀, t, T', L, h0, X', hL, e1, e2, ⟨hv, hi, hq⟩, stp⟩ := hr T hT X
  cases hv
  obtain ⟨t2, a1, b1⟩ := kk T'.heap (locs ++ L) hi (by rw [e1]; exact hq) (t_lL h3 hL) T' rfl X'
  exact ⟨t2, stp t2 a1, b1⟩
theorem hPc_blind {av : List Value} : FrameBlind (va_Pc av (fun U => hT G U ∧ hR G u U.heap)) := fun a U g mk h => ⟨h.1, hT.same (u := U) (U := U.calling g mk a) rfl h.2.1, h.2.2⟩
theorem tG_gc {y : MethodName} {b : ByteArray} {k : Nat} {rt : Option FieldType} (h : Cond.code y b k rt ∈ tG) : GoodIn tG (Cond.code y b k rt :: tG) := fun w hw => by
  rcases List.mem_cons.mp hw with e | e
  · rw [e]; exact tG_good _ h
  · exact tG_good w e
theorem hg_cb (X : hOK (G, p, l, e, R, s, m, args, below, meth, c) cc own nL ret) (hY2 : hY y cc2 maxL2 ret2 n) (hl : Cond.methodLink own idx y ∈ tG) (hf : d2 + 1 ≤ R.frames) (hlo : 50 * d2 + 50 ≤ R.locals) : CallB R s args own idx y cc2 maxL2 ret2 (Cond.code y cc2 maxL2 ret2 :: tG) (hRm d2 mc2 ms2) mc2 ms2 n :=
  callB_of n X.2.2.2.2.1 (tG_gc hY2.1) rfl rfl rfl (X.2.2.2.2.1 _ hY2.2.1) (X.2.2.2.2.1 _ hl) hY2.2.2.1 ⟨hf, by have := hY2.2.2.2; show 8 + (maxL2 + 11) + 50 * d2 ≤ R.locals; omega⟩
end HC
theorem s_callVI {C : hCx} {cc cc2 : ByteArray} {own : String} {nL : Nat} {ret : Option FieldType} {mc ms pc pc2 : Nat} {lv : List (Nat × Value)} {st stk : List Value} {cells slots : Nat} {idx ci a n maxL2 d2 : Nat} {y : MethodName} {Cn : String} {T : u_T} {N : Nat} {As : List Value} {g : hM} {f : Int → hM} (X : hOK C cc own nL ret) (hd : decode cc pc = .ok (.invokevirtual idx, 3)) (hp : pc + 3 = pc2) (hl : Cond.methodLink own idx y ∈ tG) (hi : Cond.instanceMethod y ∈ tG) (hsl : Cond.selects y.cls y y ∈ tG) (hcl : hCls ci Cn T N) (hcn : y.cls = Cn) (hM : hMet C.1 C.2.2.1 y cc2 maxL2 (some .int) d2 0 0 (vR C.1.1 a :: As) g) (hY2 : hY y cc2 maxL2 (some .int) n) (hn : As.length = n) (hs : stk = As.reverse ++ vR C.1.1 a :: st) (hf : d2 + 1 ≤ C.2.2.2.2.1.frames) (hlo : 50 * d2 + 50 ≤ C.2.2.2.2.1.locals) (hst : (st.map fun v => v.category).sum ≤ 8) (hcs : cells ≤ C.2.2.2.2.1.cells ∧ slots ≤ C.2.2.2.2.1.slots) (k : ∀ v, inI v → hSim C ret mc ms nL pc2 lv (vI v :: st) cells slots (f v)) : hSim C ret mc ms nL pc lv stk cells slots (hcallV ci a g f) := by
  subst hp
  subst hs
  obtain ⟨G, p, l, e, R, s, m, args, below, meth, c⟩ := C
  intro u r u1 H locs ls h1 h2 h3 h4
  by_cases ha : hok u a ci
  · rw [show hcallV ci a g f u = hcall g f u from if_pos ha] at h1
    cases hg : g u with
    | none => rw [show hcall g f u = none by unfold hcall; rw [hg]] at h1; cases h1
    | some w =>
      obtain ⟨r2, u2⟩ := w
      rw [show hcall g f u = f r2 u2 by unfold hcall; rw [hg]] at h1
      have cb := hg_cb (mc2 := 0) (ms2 := 0) X hY2 hl hf hlo
      have x5 := X.2.2.2.2.1
      have x6 := X.2.2.2.2.2.1
      obtain ⟨a1, a2, a3⟩ := ha
      obtain ⟨q, q1, q2, q3⟩ := (h2.2.2.2 a a1 a2).1 (by rw [a3]; exact hcl.2.1)
      rw [a3] at q1 q2
      cases q1.symm.trans hcl.1
      obtain ⟨cell, g1, g2, g3, g4⟩ := q2
      show W p l e R s m args below meth c H locs cells slots (hMQ (G, p, l, e, R, s, m, args, below, meth, c) ret mc ms r u1) (F0 m pc ls (As.reverse ++ vR G.1 a :: st))
      have ea : vR G.1 a = .ref (G.1 + a) := if_neg (by omega)
      have hMM := hM u r2 u2 hg
      rw [show vR (G, p, l, e, R, s, m, args, below, meth, c).1.1 a = .ref (G.1 + a) from ea] at hMM
      rw [ea]
      have hr := va_runV (C := y.cls) (rest := st) (As := As) (g := F0 m pc ls (As.reverse ++ .ref (G.1 + a) :: st)) (locs := locs) (cells := cells) (slots := slots) (e := e) (below := below) (meth := meth) (H := H) (b := G.1 + a) ⟨X.1, X.2.1, X.2.2.1, X.2.2.2.1, x5⟩ hMM ⟨cb, x5 _ hi, x5 _ hsl⟩ ⟨hPc_blind, ⟨cell, g1, by rw [g3]; rfl, by rw [g2, hcn]; exact (x6.1.1 ci _ hcl.1).2.1⟩, fun U hU hW => ⟨rfl, hT.warm hW x6, by rw [hU]; exact h2⟩⟩ rfl hn h4.1 rfl (lv_room hst) hd ⟨hcs.1, hcs.2⟩
      exact hg_run hr h3 (fun H2 locs2 z r2 r3 => k _ z _ r u1 H2 locs2 ls h1 r2 r3 h4)
  · rw [show hcallV ci a g f u = none from if_neg ha] at h1
    cases h1
theorem s_callVZ {C : hCx} {cc cc2 : ByteArray} {own : String} {nL : Nat} {ret : Option FieldType} {mc ms pc pc2 : Nat} {lv : List (Nat × Value)} {st stk : List Value} {cells slots : Nat} {idx ci a n maxL2 d2 : Nat} {y : MethodName} {Cn : String} {T : u_T} {N : Nat} {As : List Value} {g : hM} {f : Int → hM} (X : hOK C cc own nL ret) (hd : decode cc pc = .ok (.invokevirtual idx, 3)) (hp : pc + 3 = pc2) (hl : Cond.methodLink own idx y ∈ tG) (hi : Cond.instanceMethod y ∈ tG) (hsl : Cond.selects y.cls y y ∈ tG) (hcl : hCls ci Cn T N) (hcn : y.cls = Cn) (hM : hMet C.1 C.2.2.1 y cc2 maxL2 (some .boolean) d2 0 0 (vR C.1.1 a :: As) g) (hY2 : hY y cc2 maxL2 (some .boolean) n) (hn : As.length = n) (hs : stk = As.reverse ++ vR C.1.1 a :: st) (hf : d2 + 1 ≤ C.2.2.2.2.1.frames) (hlo : 50 * d2 + 50 ≤ C.2.2.2.2.1.locals) (hst : (st.map fun v => v.category).sum ≤ 8) (hcs : cells ≤ C.2.2.2.2.1.cells ∧ slots ≤ C.2.2.2.2.1.slots) (k : ∀ v, inI v → hSim C ret mc ms nL pc2 lv (vI v :: st) cells slots (f v)) : hSim C ret mc ms nL pc lv stk cells slots (hcallV ci a g f) := by
  subst hp
  subst hs
  obtain ⟨G, p, l, e, R, s, m, args, below, meth, c⟩ := C
  intro u r u1 H locs ls h1 h2 h3 h4
  by_cases ha : hok u a ci
  · rw [show hcallV ci a g f u = hcall g f u from if_pos ha] at h1
    cases hg : g u with
    | none => rw [show hcall g f u = none by unfold hcall; rw [hg]] at h1; cases h1
    | some w =>
      obtain ⟨r2, u2⟩ := w
      rw [show hcall g f u = f r2 u2 by unfold hcall; rw [hg]] at h1
      have cb := hg_cb (mc2 := 0) (ms2 := 0) X hY2 hl hf hlo
      have x5 := X.2.2.2.2.1
      have x6 := X.2.2.2.2.2.1
      obtain ⟨a1, a2, a3⟩ := ha
      obtain ⟨q, q1, q2, q3⟩ := (h2.2.2.2 a a1 a2).1 (by rw [a3]; exact hcl.2.1)
      rw [a3] at q1 q2
      cases q1.symm.trans hcl.1
      obtain ⟨cell, g1, g2, g3, g4⟩ := q2
      show W p l e R s m args below meth c H locs cells slots (hMQ (G, p, l, e, R, s, m, args, below, meth, c) ret mc ms r u1) (F0 m pc ls (As.reverse ++ vR G.1 a :: st))
      have ea : vR G.1 a = .ref (G.1 + a) := if_neg (by omega)
      have hMM := hM u r2 u2 hg
      rw [show vR (G, p, l, e, R, s, m, args, below, meth, c).1.1 a = .ref (G.1 + a) from ea] at hMM
      rw [ea]
      have hr := va_runV (C := y.cls) (rest := st) (As := As) (g := F0 m pc ls (As.reverse ++ .ref (G.1 + a) :: st)) (locs := locs) (cells := cells) (slots := slots) (e := e) (below := below) (meth := meth) (H := H) (b := G.1 + a) ⟨X.1, X.2.1, X.2.2.1, X.2.2.2.1, x5⟩ hMM ⟨cb, x5 _ hi, x5 _ hsl⟩ ⟨hPc_blind, ⟨cell, g1, by rw [g3]; rfl, by rw [g2, hcn]; exact (x6.1.1 ci _ hcl.1).2.1⟩, fun U hU hW => ⟨rfl, hT.warm hW x6, by rw [hU]; exact h2⟩⟩ rfl hn h4.1 rfl (lv_room hst) hd ⟨hcs.1, hcs.2⟩
      exact hg_run hr h3 (fun H2 locs2 z r2 r3 => k _ (by rcases z with z | z <;> rw [z] <;> exact inI_c _ rfl) _ r u1 H2 locs2 ls h1 r2 r3 h4)
  · rw [show hcallV ci a g f u = none from if_neg ha] at h1
    cases h1
theorem s_callVL {C : hCx} {cc cc2 : ByteArray} {own : String} {nL : Nat} {ret : Option FieldType} {mc ms pc pc2 : Nat} {lv : List (Nat × Value)} {st stk : List Value} {cells slots : Nat} {idx ci a n maxL2 d2 : Nat} {y : MethodName} {Cn : String} {T : u_T} {N : Nat} {As : List Value} {g : hM} {f : Int → hM} (X : hOK C cc own nL ret) (hd : decode cc pc = .ok (.invokevirtual idx, 3)) (hp : pc + 3 = pc2) (hl : Cond.methodLink own idx y ∈ tG) (hi : Cond.instanceMethod y ∈ tG) (hsl : Cond.selects y.cls y y ∈ tG) (hcl : hCls ci Cn T N) (hcn : y.cls = Cn) (hM : hMet C.1 C.2.2.1 y cc2 maxL2 (some .long) d2 0 0 (vR C.1.1 a :: As) g) (hY2 : hY y cc2 maxL2 (some .long) n) (hn : As.length = n) (hs : stk = As.reverse ++ vR C.1.1 a :: st) (hf : d2 + 1 ≤ C.2.2.2.2.1.frames) (hlo : 50 * d2 + 50 ≤ C.2.2.2.2.1.locals) (hst : (st.map fun v => v.category).sum ≤ 8) (hcs : cells ≤ C.2.2.2.2.1.cells ∧ slots ≤ C.2.2.2.2.1.slots) (k : ∀ v, inL v → hSim C ret mc ms nL pc2 lv (vL v :: st) cells slots (f v)) : hSim C ret mc ms nL pc lv stk cells slots (hcallV ci a g f) := by
  subst hp
  subst hs
  obtain ⟨G, p, l, e, R, s, m, args, below, meth, c⟩ := C
  intro u r u1 H locs ls h1 h2 h3 h4
  by_cases ha : hok u a ci
  · rw [show hcallV ci a g f u = hcall g f u from if_pos ha] at h1
    cases hg : g u with
    | none => rw [show hcall g f u = none by unfold hcall; rw [hg]] at h1; cases h1
    | some w =>
      obtain ⟨r2, u2⟩ := w
      rw [show hcall g f u = f r2 u2 by unfold hcall; rw [hg]] at h1
      have cb := hg_cb (mc2 := 0) (ms2 := 0) X hY2 hl hf hlo
      have x5 := X.2.2.2.2.1
      have x6 := X.2.2.2.2.2.1
      obtain ⟨a1, a2, a3⟩ := ha
      obtain ⟨q, q1, q2, q3⟩ := (h2.2.2.2 a a1 a2).1 (by rw [a3]; exact hcl.2.1)
      rw [a3] at q1 q2
      cases q1.symm.trans hcl.1
      obtain ⟨cell, g1, g2, g3, g4⟩ := q2
      show W p l e R s m args below meth c H locs cells slots (hMQ (G, p, l, e, R, s, m, args, below, meth, c) ret mc ms r u1) (F0 m pc ls (As.reverse ++ vR G.1 a :: st))
      have ea : vR G.1 a = .ref (G.1 + a) := if_neg (by omega)
      have hMM := hM u r2 u2 hg
      rw [show vR (G, p, l, e, R, s, m, args, below, meth, c).1.1 a = .ref (G.1 + a) from ea] at hMM
      rw [ea]
      have hr := va_runV (C := y.cls) (rest := st) (As := As) (g := F0 m pc ls (As.reverse ++ .ref (G.1 + a) :: st)) (locs := locs) (cells := cells) (slots := slots) (e := e) (below := below) (meth := meth) (H := H) (b := G.1 + a) ⟨X.1, X.2.1, X.2.2.1, X.2.2.2.1, x5⟩ hMM ⟨cb, x5 _ hi, x5 _ hsl⟩ ⟨hPc_blind, ⟨cell, g1, by rw [g3]; rfl, by rw [g2, hcn]; exact (x6.1.1 ci _ hcl.1).2.1⟩, fun U hU hW => ⟨rfl, hT.warm hW x6, by rw [hU]; exact h2⟩⟩ rfl hn h4.1 rfl (lv_room hst) hd ⟨hcs.1, hcs.2⟩
      exact hg_run hr h3 (fun H2 locs2 z r2 r3 => k _ z _ r u1 H2 locs2 ls h1 r2 r3 h4)
  · rw [show hcallV ci a g f u = none from if_neg ha] at h1
    cases h1
theorem s_callVV {C : hCx} {cc cc2 : ByteArray} {own : String} {nL : Nat} {ret : Option FieldType} {mc ms pc pc2 : Nat} {lv : List (Nat × Value)} {st stk : List Value} {cells slots : Nat} {idx ci a n maxL2 d2 : Nat} {y : MethodName} {Cn : String} {T : u_T} {N : Nat} {As : List Value} {g : hM} {f : Int → hM} (X : hOK C cc own nL ret) (hd : decode cc pc = .ok (.invokevirtual idx, 3)) (hp : pc + 3 = pc2) (hl : Cond.methodLink own idx y ∈ tG) (hi : Cond.instanceMethod y ∈ tG) (hsl : Cond.selects y.cls y y ∈ tG) (hcl : hCls ci Cn T N) (hcn : y.cls = Cn) (hM : hMet C.1 C.2.2.1 y cc2 maxL2 (none) d2 0 0 (vR C.1.1 a :: As) g) (hY2 : hY y cc2 maxL2 (none) n) (hn : As.length = n) (hs : stk = As.reverse ++ vR C.1.1 a :: st) (hf : d2 + 1 ≤ C.2.2.2.2.1.frames) (hlo : 50 * d2 + 50 ≤ C.2.2.2.2.1.locals) (hst : (st.map fun v => v.category).sum ≤ 8) (hcs : cells ≤ C.2.2.2.2.1.cells ∧ slots ≤ C.2.2.2.2.1.slots) (k : ∀ v, hSim C ret mc ms nL pc2 lv st cells slots (f v)) : hSim C ret mc ms nL pc lv stk cells slots (hcallV ci a g f) := by
  subst hp
  subst hs
  obtain ⟨G, p, l, e, R, s, m, args, below, meth, c⟩ := C
  intro u r u1 H locs ls h1 h2 h3 h4
  by_cases ha : hok u a ci
  · rw [show hcallV ci a g f u = hcall g f u from if_pos ha] at h1
    cases hg : g u with
    | none => rw [show hcall g f u = none by unfold hcall; rw [hg]] at h1; cases h1
    | some w =>
      obtain ⟨r2, u2⟩ := w
      rw [show hcall g f u = f r2 u2 by unfold hcall; rw [hg]] at h1
      have cb := hg_cb (mc2 := 0) (ms2 := 0) X hY2 hl hf hlo
      have x5 := X.2.2.2.2.1
      have x6 := X.2.2.2.2.2.1
      obtain ⟨a1, a2, a3⟩ := ha
      obtain ⟨q, q1, q2, q3⟩ := (h2.2.2.2 a a1 a2).1 (by rw [a3]; exact hcl.2.1)
      rw [a3] at q1 q2
      cases q1.symm.trans hcl.1
      obtain ⟨cell, g1, g2, g3, g4⟩ := q2
      show W p l e R s m args below meth c H locs cells slots (hMQ (G, p, l, e, R, s, m, args, below, meth, c) ret mc ms r u1) (F0 m pc ls (As.reverse ++ vR G.1 a :: st))
      have ea : vR G.1 a = .ref (G.1 + a) := if_neg (by omega)
      have hMM := hM u r2 u2 hg
      rw [show vR (G, p, l, e, R, s, m, args, below, meth, c).1.1 a = .ref (G.1 + a) from ea] at hMM
      rw [ea]
      have hr := va_runV (C := y.cls) (rest := st) (As := As) (g := F0 m pc ls (As.reverse ++ .ref (G.1 + a) :: st)) (locs := locs) (cells := cells) (slots := slots) (e := e) (below := below) (meth := meth) (H := H) (b := G.1 + a) ⟨X.1, X.2.1, X.2.2.1, X.2.2.2.1, x5⟩ hMM ⟨cb, x5 _ hi, x5 _ hsl⟩ ⟨hPc_blind, ⟨cell, g1, by rw [g3]; rfl, by rw [g2, hcn]; exact (x6.1.1 ci _ hcl.1).2.1⟩, fun U hU hW => ⟨rfl, hT.warm hW x6, by rw [hU]; exact h2⟩⟩ rfl hn h4.1 rfl (lv_room hst) hd ⟨hcs.1, hcs.2⟩
      exact hg_run hr h3 (fun H2 locs2 z r2 r3 => k _ _ r u1 H2 locs2 ls h1 r2 r3 h4)
  · rw [show hcallV ci a g f u = none from if_neg ha] at h1
    cases h1
theorem s_callSI {C : hCx} {cc cc2 : ByteArray} {own : String} {nL : Nat} {ret : Option FieldType} {mc ms pc pc2 : Nat} {lv : List (Nat × Value)} {st stk : List Value} {cells slots : Nat} {idx n maxL2 d2 : Nat} {y : MethodName} {As : List Value} {g : hM} {f : Int → hM} (X : hOK C cc own nL ret) (hd : decode cc pc = .ok (.invokestatic idx, 3)) (hp : pc + 3 = pc2) (hl : Cond.methodLink own idx y ∈ tG) (hi : Cond.static y ∈ tG) (hM : hMet C.1 C.2.2.1 y cc2 maxL2 (some .int) d2 0 0 As g) (hY2 : hY y cc2 maxL2 (some .int) n) (hn : As.length = n) (hs : stk = As.reverse ++ st) (hf : d2 + 1 ≤ C.2.2.2.2.1.frames) (hlo : 50 * d2 + 50 ≤ C.2.2.2.2.1.locals) (hst : (st.map fun v => v.category).sum ≤ 8) (hcs : cells ≤ C.2.2.2.2.1.cells ∧ slots ≤ C.2.2.2.2.1.slots) (k : ∀ v, inI v → hSim C ret mc ms nL pc2 lv (vI v :: st) cells slots (f v)) : hSim C ret mc ms nL pc lv stk cells slots (hcall g f) := by
  subst hp
  subst hs
  obtain ⟨G, p, l, e, R, s, m, args, below, meth, c⟩ := C
  intro u r u1 H locs ls h1 h2 h3 h4
  cases hg : g u with
  | none => rw [show hcall g f u = none by unfold hcall; rw [hg]] at h1; cases h1
  | some w =>
    obtain ⟨r2, u2⟩ := w
    rw [show hcall g f u = f r2 u2 by unfold hcall; rw [hg]] at h1
    have cb := hg_cb (mc2 := 0) (ms2 := 0) X hY2 hl hf hlo
    have x5 := X.2.2.2.2.1
    have x6 := X.2.2.2.2.2.1
    have hMM := hM u r2 u2 hg
    have hr := va_runS (rest := st) (As := As) (g := F0 m pc ls (As.reverse ++ st)) (locs := locs) (cells := cells) (slots := slots) (e := e) (below := below) (meth := meth) (H := H) ⟨X.1, X.2.1, X.2.2.1, X.2.2.2.1, x5⟩ hMM ⟨cb, x5 _ hi⟩ ⟨hPc_blind, fun U hU hW => ⟨rfl, hT.warm hW x6, by rw [hU]; exact h2⟩⟩ rfl hn h4.1 rfl (lv_room hst) hd ⟨hcs.1, hcs.2⟩
    exact hg_run hr h3 (fun H2 locs2 z r2 r3 => k _ z _ r u1 H2 locs2 ls h1 r2 r3 h4)
theorem s_callSZ {C : hCx} {cc cc2 : ByteArray} {own : String} {nL : Nat} {ret : Option FieldType} {mc ms pc pc2 : Nat} {lv : List (Nat × Value)} {st stk : List Value} {cells slots : Nat} {idx n maxL2 d2 : Nat} {y : MethodName} {As : List Value} {g : hM} {f : Int → hM} (X : hOK C cc own nL ret) (hd : decode cc pc = .ok (.invokestatic idx, 3)) (hp : pc + 3 = pc2) (hl : Cond.methodLink own idx y ∈ tG) (hi : Cond.static y ∈ tG) (hM : hMet C.1 C.2.2.1 y cc2 maxL2 (some .boolean) d2 0 0 As g) (hY2 : hY y cc2 maxL2 (some .boolean) n) (hn : As.length = n) (hs : stk = As.reverse ++ st) (hf : d2 + 1 ≤ C.2.2.2.2.1.frames) (hlo : 50 * d2 + 50 ≤ C.2.2.2.2.1.locals) (hst : (st.map fun v => v.category).sum ≤ 8) (hcs : cells ≤ C.2.2.2.2.1.cells ∧ slots ≤ C.2.2.2.2.1.slots) (k : ∀ v, inI v → hSim C ret mc ms nL pc2 lv (vI v :: st) cells slots (f v)) : hSim C ret mc ms nL pc lv stk cells slots (hcall g f) := by
  subst hp
  subst hs
  obtain ⟨G, p, l, e, R, s, m, args, below, meth, c⟩ := C
  intro u r u1 H locs ls h1 h2 h3 h4
  cases hg : g u with
  | none => rw [show hcall g f u = none by unfold hcall; rw [hg]] at h1; cases h1
  | some w =>
    obtain ⟨r2, u2⟩ := w
    rw [show hcall g f u = f r2 u2 by unfold hcall; rw [hg]] at h1
    have cb := hg_cb (mc2 := 0) (ms2 := 0) X hY2 hl hf hlo
    have x5 := X.2.2.2.2.1
    have x6 := X.2.2.2.2.2.1
    have hMM := hM u r2 u2 hg
    have hr := va_runS (rest := st) (As := As) (g := F0 m pc ls (As.reverse ++ st)) (locs := locs) (cells := cells) (slots := slots) (e := e) (below := below) (meth := meth) (H := H) ⟨X.1, X.2.1, X.2.2.1, X.2.2.2.1, x5⟩ hMM ⟨cb, x5 _ hi⟩ ⟨hPc_blind, fun U hU hW => ⟨rfl, hT.warm hW x6, by rw [hU]; exact h2⟩⟩ rfl hn h4.1 rfl (lv_room hst) hd ⟨hcs.1, hcs.2⟩
    exact hg_run hr h3 (fun H2 locs2 z r2 r3 => k _ (by rcases z with z | z <;> rw [z] <;> exact inI_c _ rfl) _ r u1 H2 locs2 ls h1 r2 r3 h4)
theorem s_callSL {C : hCx} {cc cc2 : ByteArray} {own : String} {nL : Nat} {ret : Option FieldType} {mc ms pc pc2 : Nat} {lv : List (Nat × Value)} {st stk : List Value} {cells slots : Nat} {idx n maxL2 d2 : Nat} {y : MethodName} {As : List Value} {g : hM} {f : Int → hM} (X : hOK C cc own nL ret) (hd : decode cc pc = .ok (.invokestatic idx, 3)) (hp : pc + 3 = pc2) (hl : Cond.methodLink own idx y ∈ tG) (hi : Cond.static y ∈ tG) (hM : hMet C.1 C.2.2.1 y cc2 maxL2 (some .long) d2 0 0 As g) (hY2 : hY y cc2 maxL2 (some .long) n) (hn : As.length = n) (hs : stk = As.reverse ++ st) (hf : d2 + 1 ≤ C.2.2.2.2.1.frames) (hlo : 50 * d2 + 50 ≤ C.2.2.2.2.1.locals) (hst : (st.map fun v => v.category).sum ≤ 8) (hcs : cells ≤ C.2.2.2.2.1.cells ∧ slots ≤ C.2.2.2.2.1.slots) (k : ∀ v, inL v → hSim C ret mc ms nL pc2 lv (vL v :: st) cells slots (f v)) : hSim C ret mc ms nL pc lv stk cells slots (hcall g f) := by
  subst hp
  subst hs
  obtain ⟨G, p, l, e, R, s, m, args, below, meth, c⟩ := C
  intro u r u1 H locs ls h1 h2 h3 h4
  cases hg : g u with
  | none => rw [show hcall g f u = none by unfold hcall; rw [hg]] at h1; cases h1
  | some w =>
    obtain ⟨r2, u2⟩ := w
    rw [show hcall g f u = f r2 u2 by unfold hcall; rw [hg]] at h1
    have cb := hg_cb (mc2 := 0) (ms2 := 0) X hY2 hl hf hlo
    have x5 := X.2.2.2.2.1
    have x6 := X.2.2.2.2.2.1
    have hMM := hM u r2 u2 hg
    have hr := va_runS (rest := st) (As := As) (g := F0 m pc ls (As.reverse ++ st)) (locs := locs) (cells := cells) (slots := slots) (e := e) (below := below) (meth := meth) (H := H) ⟨X.1, X.2.1, X.2.2.1, X.2.2.2.1, x5⟩ hMM ⟨cb, x5 _ hi⟩ ⟨hPc_blind, fun U hU hW => ⟨rfl, hT.warm hW x6, by rw [hU]; exact h2⟩⟩ rfl hn h4.1 rfl (lv_room hst) hd ⟨hcs.1, hcs.2⟩
    exact hg_run hr h3 (fun H2 locs2 z r2 r3 => k _ z _ r u1 H2 locs2 ls h1 r2 r3 h4)
theorem s_callSV {C : hCx} {cc cc2 : ByteArray} {own : String} {nL : Nat} {ret : Option FieldType} {mc ms pc pc2 : Nat} {lv : List (Nat × Value)} {st stk : List Value} {cells slots : Nat} {idx n maxL2 d2 : Nat} {y : MethodName} {As : List Value} {g : hM} {f : Int → hM} (X : hOK C cc own nL ret) (hd : decode cc pc = .ok (.invokestatic idx, 3)) (hp : pc + 3 = pc2) (hl : Cond.methodLink own idx y ∈ tG) (hi : Cond.static y ∈ tG) (hM : hMet C.1 C.2.2.1 y cc2 maxL2 (none) d2 0 0 As g) (hY2 : hY y cc2 maxL2 (none) n) (hn : As.length = n) (hs : stk = As.reverse ++ st) (hf : d2 + 1 ≤ C.2.2.2.2.1.frames) (hlo : 50 * d2 + 50 ≤ C.2.2.2.2.1.locals) (hst : (st.map fun v => v.category).sum ≤ 8) (hcs : cells ≤ C.2.2.2.2.1.cells ∧ slots ≤ C.2.2.2.2.1.slots) (k : ∀ v, hSim C ret mc ms nL pc2 lv st cells slots (f v)) : hSim C ret mc ms nL pc lv stk cells slots (hcall g f) := by
  subst hp
  subst hs
  obtain ⟨G, p, l, e, R, s, m, args, below, meth, c⟩ := C
  intro u r u1 H locs ls h1 h2 h3 h4
  cases hg : g u with
  | none => rw [show hcall g f u = none by unfold hcall; rw [hg]] at h1; cases h1
  | some w =>
    obtain ⟨r2, u2⟩ := w
    rw [show hcall g f u = f r2 u2 by unfold hcall; rw [hg]] at h1
    have cb := hg_cb (mc2 := 0) (ms2 := 0) X hY2 hl hf hlo
    have x5 := X.2.2.2.2.1
    have x6 := X.2.2.2.2.2.1
    have hMM := hM u r2 u2 hg
    have hr := va_runS (rest := st) (As := As) (g := F0 m pc ls (As.reverse ++ st)) (locs := locs) (cells := cells) (slots := slots) (e := e) (below := below) (meth := meth) (H := H) ⟨X.1, X.2.1, X.2.2.1, X.2.2.2.1, x5⟩ hMM ⟨cb, x5 _ hi⟩ ⟨hPc_blind, fun U hU hW => ⟨rfl, hT.warm hW x6, by rw [hU]; exact h2⟩⟩ rfl hn h4.1 rfl (lv_room hst) hd ⟨hcs.1, hcs.2⟩
    exact hg_run hr h3 (fun H2 locs2 z r2 r3 => k _ _ r u1 H2 locs2 ls h1 r2 r3 h4)
theorem s_callI {C : hCx} {cc cc2 : ByteArray} {own : String} {nL : Nat} {ret : Option FieldType} {mc ms pc pc2 : Nat} {lv : List (Nat × Value)} {st stk : List Value} {cells slots : Nat} {idx a n maxL2 d2 mc2 ms2 : Nat} {y : MethodName} {As : List Value} {g : hM} {f : Int → hM} (X : hOK C cc own nL ret) (hd : decode cc pc = .ok (.invokespecial idx, 3)) (hp : pc + 3 = pc2) (hl : Cond.methodLink own idx y ∈ tG) (hi : Cond.instanceMethod y ∈ tG) (hnm : y.name = "<init>") (hM : hMet C.1 C.2.2.1 y cc2 maxL2 none d2 mc2 ms2 (vR C.1.1 a :: As) g) (hY2 : hY y cc2 maxL2 none n) (hn : As.length = n) (hs : stk = As.reverse ++ vR C.1.1 a :: st) (ha : 0 < a) (hf : d2 + 1 ≤ C.2.2.2.2.1.frames) (hlo : 50 * d2 + 50 ≤ C.2.2.2.2.1.locals) (hst : (st.map fun v => v.category).sum ≤ 8) (hcs : cells + mc2 ≤ C.2.2.2.2.1.cells ∧ slots + ms2 ≤ C.2.2.2.2.1.slots) (k : ∀ v, hSim C ret mc ms nL pc2 lv st (cells + mc2) (slots + ms2) (f v)) : hSim C ret mc ms nL pc lv stk cells slots (hcall g f) := by
  subst hp
  subst hs
  obtain ⟨G, p, l, e, R, s, m, args, below, meth, c⟩ := C
  intro u r u1 H locs ls h1 h2 h3 h4
  cases hg : g u with
  | none => rw [show hcall g f u = none by unfold hcall; rw [hg]] at h1; cases h1
  | some w =>
    obtain ⟨r2, u2⟩ := w
    rw [show hcall g f u = f r2 u2 by unfold hcall; rw [hg]] at h1
    have x5 := X.2.2.2.2.1
    have x6 := X.2.2.2.2.2.1
    have cb := hg_cb (mc2 := mc2) (ms2 := ms2) X hY2 hl hf hlo
    show W p l e R s m args below meth c H locs cells slots (hMQ (G, p, l, e, R, s, m, args, below, meth, c) ret mc ms r u1) (F0 m pc ls (As.reverse ++ vR G.1 a :: st))
    have ea : vR G.1 a = .ref (G.1 + a) := if_neg (by omega)
    have hMM := hM u r2 u2 hg
    rw [show vR (G, p, l, e, R, s, m, args, below, meth, c).1.1 a = .ref (G.1 + a) from ea] at hMM
    rw [ea]
    have hr := va_runI (rest := st) (As := As) (g := F0 m pc ls (As.reverse ++ .ref (G.1 + a) :: st)) (locs := locs) (cells := cells) (slots := slots) (e := e) (below := below) (meth := meth) (H := H) (b := G.1 + a) ⟨X.1, X.2.1, X.2.2.1, X.2.2.2.1, x5⟩ hMM ⟨cb, hnm, x5 _ hi⟩ ⟨hPc_blind, fun U hU hW => ⟨rfl, hT.warm hW x6, by rw [hU]; exact h2⟩⟩ rfl hn h4.1 rfl (lv_room hst) hd ⟨hcs.1, hcs.2⟩
    exact hg_run hr h3 (fun H2 locs2 z r2 r3 => k _ _ r u1 H2 locs2 ls h1 r2 r3 h4)
theorem s_callN {C : hCx} {cc cc2 : ByteArray} {own : String} {nL : Nat} {ret : Option FieldType} {mc ms pc pc2 : Nat} {lv : List (Nat × Value)} {st stk : List Value} {cells slots : Nat} {idx a n maxL2 d2 mc2 ms2 : Nat} {y : MethodName} {As : List Value} {g : hM} {f : Int → hM} (X : hOK C cc own nL ret) (hd : decode cc pc = .ok (.invokespecial idx, 3)) (hp : pc + 3 = pc2) (hl : (idx, y) ∈ nestL) (hown : own = "ThriceBridge") (hi : Cond.instanceMethod y ∈ tG) (hnm : y.name = "<init>") (hM : hMet C.1 C.2.2.1 y cc2 maxL2 none d2 mc2 ms2 (vR C.1.1 a :: As) g) (hY2 : hY y cc2 maxL2 none n) (hn : As.length = n) (hs : stk = As.reverse ++ vR C.1.1 a :: st) (ha : 0 < a) (hf : d2 + 1 ≤ C.2.2.2.2.1.frames) (hlo : 50 * d2 + 50 ≤ C.2.2.2.2.1.locals) (hst : (st.map fun v => v.category).sum ≤ 8) (hcs : cells + mc2 ≤ C.2.2.2.2.1.cells ∧ slots + ms2 ≤ C.2.2.2.2.1.slots) (k : ∀ v, hSim C ret mc ms nL pc2 lv st (cells + mc2) (slots + ms2) (f v)) : hSim C ret mc ms nL pc lv stk cells slots (hcall g f) := by
  subst hp
  subst hs
  obtain ⟨G, p, l, e, R, s, m, args, below, meth, c⟩ := C
  intro u r u1 H locs ls h1 h2 h3 h4
  cases hg : g u with
  | none => rw [show hcall g f u = none by unfold hcall; rw [hg]] at h1; cases h1
  | some w =>
    obtain ⟨r2, u2⟩ := w
    rw [show hcall g f u = f r2 u2 by unfold hcall; rw [hg]] at h1
    have x5 := X.2.2.2.2.1
    have x6 := X.2.2.2.2.2.1
    subst hown
    have hlo2 : 50 * d2 + 50 ≤ R.locals := hlo
    have cb := va_cnB (R := R) (mc := mc2) (ms := ms2) (rm := hRm d2 mc2 ms2) (host := "ThriceBridge") n x5 (tG_gc hY2.1) rfl rfl rfl (x6.2.2.1.1 _ hl) (x5 _ hY2.2.1) hY2.2.2.1 ⟨hf, by have := hY2.2.2.2; show 8 + (maxL2 + 11) + 50 * d2 ≤ R.locals; omega⟩
    show W p l e R s m args below meth c H locs cells slots (hMQ (G, p, l, e, R, s, m, args, below, meth, c) ret mc ms r u1) (F0 m pc ls (As.reverse ++ vR G.1 a :: st))
    have ea : vR G.1 a = .ref (G.1 + a) := if_neg (by omega)
    have hMM := hM u r2 u2 hg
    rw [show vR (G, p, l, e, R, s, m, args, below, meth, c).1.1 a = .ref (G.1 + a) from ea] at hMM
    rw [ea]
    have hr := va_runIN (rest := st) (As := As) (g := F0 m pc ls (As.reverse ++ .ref (G.1 + a) :: st)) (locs := locs) (cells := cells) (slots := slots) (e := e) (below := below) (meth := meth) (H := H) (b := G.1 + a) ⟨X.1, X.2.1, X.2.2.1, X.2.2.2.1, x5⟩ hMM ⟨cb, hnm, x5 _ hi⟩ ⟨hPc_blind, fun U hU hW => ⟨rfl, hT.warm hW x6, by rw [hU]; exact h2⟩⟩ rfl hn h4.1 rfl (lv_room hst) hd ⟨hcs.1, hcs.2⟩
    exact hg_run hr h3 (fun H2 locs2 z r2 r3 => k _ _ r u1 H2 locs2 ls h1 r2 r3 h4)
theorem s_objI {C : hCx} {cc : ByteArray} {own : String} {nL : Nat} {ret : Option FieldType} {mc ms pc pc2 : Nat} {lv : List (Nat × Value)} {st : List Value} {cells slots : Nat} {idx x B : Nat} {P : hM} (X : hOK C cc own nL ret) (hd : decode cc pc = .ok (.invokespecial idx, 3)) (hp : pc + 3 = pc2) (hl : Cond.methodLink own idx objectInit ∈ tG) (hi : Cond.instanceMethod objectInit ∈ tG) (hc : Cond.code objectInit ⟨#[0xb1]⟩ 1 none ∈ tG) (hx : 0 < x) (hf : 1 ≤ C.2.2.2.2.1.frames) (hlo : 50 ≤ C.2.2.2.2.1.locals) (hst : (st.map fun v => v.category).sum ≤ 8) (k : hSim C ret mc ms nL pc2 lv st cells slots P) : hSim C ret mc ms nL pc lv (vR B x :: st) cells slots P := by
  subst hp
  obtain ⟨G, p, l, e, R, s, m, args, below, meth, c⟩ := C
  intro u r u1 H locs ls h1 h2 h3 h4
  have k9 := k u r u1 H locs ls h1 h2 h3 h4
  show W p l e R s m args below meth c H locs cells slots (hMQ (G, p, l, e, R, s, m, args, below, meth, c) ret mc ms r u1) (F0 m pc ls (vR B x :: st))
  rw [show vR B x = .ref (B + x) from if_neg (by omega)]
  refine W.objInit X.1 X.2.1 X.2.2.2.1 (X.2.2.2.2.1 _ hl) (X.2.2.2.2.1 _ hi) (X.2.2.2.2.1 _ hc) rfl (by rw [X.2.2.1]; exact h4.1) rfl hd hf ?_ k9
  have := lv_room (m := m) (pc := pc) (ls := ls) (rest := st) hst
  have h50 : 50 ≤ R.locals := hlo
  show 2 * (F0 m pc ls st).monitorRoom + _ + 12 ≤ R.locals
  omega
