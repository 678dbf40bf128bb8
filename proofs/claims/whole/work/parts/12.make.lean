/-! what is made -/
theorem hB_make (u : hS) (k n : Nat) : hB (hmake u k n) = hB u + 1 := rfl
theorem hK_make (u : hS) (k n b : Nat) : hK (hmake u k n) b = if b = hB u then k else hK u b := rfl
theorem hN_make (u : hS) (k n b : Nat) : hN (hmake u k n) b = if b = hB u then n else hN u b := rfl
theorem hV_make (u : hS) (k n b j : Nat) : hV (hmake u k n) b j = if b = hB u then 0 else hV u b j := rfl
theorem hF_make (u : hS) (k n b j : Nat) : hF (hmake u k n) b j = if b = hB u then 0 else hF u b j := rfl
theorem hR_push {G : hG} {u : hS} {k n : Nat} {H H2 : Heap} (h : hR G u H) (hz : H2.size = H.size + 1) (ho : ∀ q, q < H.size → H2[q]? = H[q]?) (hc : hcell G (hmake u k n) (hB u) H2) : hR G (hmake u k n) H2 := by
  obtain ⟨h1, h2, h3, h4⟩ := h
  refine ⟨by rw [hz, h1, hB_make]; omega, by rw [hB_make]; omega, fun q hq => ?_, fun b hb1 hb2 => ?_⟩
  · rw [ho q (by omega)]; exact h3 q hq
  · by_cases hba : b = hB u
    · rw [hba]; exact hc
    · rw [hB_make] at hb2
      refine hcell_kept (h4 b hb1 (by omega)) ?_ ?_ ?_ ?_ (ho _ (by omega))
      · rw [hK_make, if_neg hba]
      · rw [hN_make, if_neg hba]
      · funext j; rw [hV_make, if_neg hba]
      · funext j; rw [hF_make, if_neg hba]
theorem hdef {ty : FieldType} {B : Nat} (h : hkd ty < 5) : defaultValue ty = hval ty B 0 0 := by
  cases ty <;> first | rfl | exact absurd h (by decide)
theorem hin0 {ty : FieldType} : hin ty 0 := by
  cases ty <;> first | trivial | exact inI_c 0 rfl | exact inL_c 0 rfl | exact Or.inl rfl | exact ⟨by decide, by decide⟩
theorem s_new {C : hCx} {cc : ByteArray} {own : String} {nL : Nat} {ret : Option FieldType} {mc ms pc pc2 : Nat} {lv : List (Nat × Value)} {st : List Value} {cells slots : Nat} {idx ci N : Nat} {Cn : String} {T : u_T} {f : Nat → hM} (X : hOK C cc own nL ret) (hd : decode cc pc = .ok (.new idx, 3)) (hp : pc + 3 = pc2) (hc : hCls ci Cn T N) (hcl : Cond.classLink own idx Cn ∈ tG) (hkd : ∀ j, j < N → hkd (tyOf ci j) < 5) (hr1 : cells + 1 ≤ C.2.2.2.2.1.cells) (hr2 : slots + N ≤ C.2.2.2.2.1.slots) (k : ∀ v, hSim C ret mc ms nL pc2 lv (vR C.1.1 v :: st) (cells + 1) (slots + N) (f v)) : hSim C ret mc ms nL pc lv st cells slots (hnew ci f) := by
  subst hp
  obtain ⟨G, p, l, e, R, s, m, args, below, meth, c⟩ := C
  intro u r u1 H locs ls h1 h2 h3 h4
  obtain ⟨c1, c2, c3, c4, c5, c6, c7⟩ := hc
  obtain ⟨x1, x2, x3, x4, x5, x6, x7, x8⟩ := X
  have hKn := x6.1.1 ci _ c1
  refine W.newcK x1 x2 x4 (x5 _ hcl) (x5 _ c7) (x5 _ c6) rfl hd hr1 hr2 hKn.2.1 rfl fun H2 kC hkC e1 z1 o1 => ?_
  have hz := h2.1
  have hb0 := h2.2.1
  have k9 := k (hB u) (hmake u ci 0) r u1 H2 locs ls h1 (hR_push h2 z1 o1 ⟨fun _ => ?_, fun z => ?_⟩) h3 h4
  · unfold vR at k9
    rw [if_neg (by omega)] at k9
    rw [hz]
    exact k9
  · unfold hobj
    rw [hK_make, if_pos rfl]
    refine ⟨(Cn, T, N), c1, ?_, fun j hj => by rw [hV_make, if_pos rfl]; exact hin0⟩
    have hz2 : H.size = G.1 + hB u := hz
    rw [← hz2]
    refine (u_born (tyOf ci) x5 c3 hKn hkC e1 c4).to (fun j hj => ?_)
    rw [hV_make, hF_make, if_pos rfl, if_pos rfl]
    exact hdef (hkd j hj)
  · rw [hK_make, if_pos rfl] at z
    omega
theorem s_newa20 {C : hCx} {cc : ByteArray} {own : String} {nL : Nat} {ret : Option FieldType} {mc ms pc pc2 : Nat} {lv : List (Nat × Value)} {st : List Value} {cells slots : Nat} {x : Int} {N : Nat} {f : Nat → hM} (X : hOK C cc own nL ret) (hd : decode cc pc = .ok (.newarray .int, 2)) (hp : pc + 2 = pc2) (hx : x = (N : Int)) (hN4 : N ≤ 4000) (hcl : Cond.arrayClass .int ∈ tG) (hr1 : cells + 1 ≤ C.2.2.2.2.1.cells) (hr2 : slots + N ≤ C.2.2.2.2.1.slots) (k : ∀ v, hSim C ret mc ms nL pc2 lv (vR C.1.1 v :: st) (cells + 1) (slots + N) (f v)) : hSim C ret mc ms nL pc lv (vI x :: st) cells slots (hnewA 20 N f) := by
  subst hp
  obtain ⟨G, p, l, e, R, s, m, args, below, meth, c⟩ := C
  intro u r u1 H locs ls h1 h2 h3 h4
  obtain ⟨x1, x2, x3, x4, x5, x6, x7, x8⟩ := X
  have hi : inI x := by subst hx; exact ⟨by omega, by omega⟩
  have hn0 : ¬ Int32.ofInt x < 0 := fun z => by have := (of_lt hi (inI_c 0 rfl)).mp z; omega
  have hz := h2.1
  have hb0 := h2.2.1
  refine va_newaK (N := N) x1 x2 (atype := .int) (x5 _ hcl) rfl hd rfl hn0 (by rw [inI_clamp (by omega) hi]; omega) (by show N * _ ≤ _; simp [componentBytes, newarray.typeOf]; omega) hr1 hr2 rfl fun H2 cA e1 z1 o1 hAr hNm => ?_
  have hcA : cA = G.2.2.2.1 20 := Option.some.inj (hNm.symm.trans (x6.2.1 20 (by decide) (by decide)).2)
  have k9 := k (hB u) (hmake u 20 N) r u1 H2 locs ls h1 (hR_push h2 z1 o1 ⟨fun z => ?_, fun _ => ?_⟩) h3 h4
  · unfold vR at k9
    rw [if_neg (by omega)] at k9
    rw [hz]
    exact k9
  · rw [hK_make, if_pos rfl] at z
    omega
  · unfold hrow
    rw [hK_make, hN_make, if_pos rfl, if_pos rfl]
    refine ⟨⟨by decide, by omega⟩, ?_, fun j hj => by rw [hV_make, if_pos rfl]; exact hin0⟩
    have hz2 : H.size = G.1 + hB u := hz
    rw [← hz2, e1, hcA]
    congr 2
    funext j
    rw [hV_make, hF_make, if_pos rfl, if_pos rfl]
    rfl
theorem s_newa21 {C : hCx} {cc : ByteArray} {own : String} {nL : Nat} {ret : Option FieldType} {mc ms pc pc2 : Nat} {lv : List (Nat × Value)} {st : List Value} {cells slots : Nat} {x : Int} {N : Nat} {f : Nat → hM} (X : hOK C cc own nL ret) (hd : decode cc pc = .ok (.newarray .long, 2)) (hp : pc + 2 = pc2) (hx : x = (N : Int)) (hN4 : N ≤ 4000) (hcl : Cond.arrayClass .long ∈ tG) (hr1 : cells + 1 ≤ C.2.2.2.2.1.cells) (hr2 : slots + N ≤ C.2.2.2.2.1.slots) (k : ∀ v, hSim C ret mc ms nL pc2 lv (vR C.1.1 v :: st) (cells + 1) (slots + N) (f v)) : hSim C ret mc ms nL pc lv (vI x :: st) cells slots (hnewA 21 N f) := by
  subst hp
  obtain ⟨G, p, l, e, R, s, m, args, below, meth, c⟩ := C
  intro u r u1 H locs ls h1 h2 h3 h4
  obtain ⟨x1, x2, x3, x4, x5, x6, x7, x8⟩ := X
  have hi : inI x := by subst hx; exact ⟨by omega, by omega⟩
  have hn0 : ¬ Int32.ofInt x < 0 := fun z => by have := (of_lt hi (inI_c 0 rfl)).mp z; omega
  have hz := h2.1
  have hb0 := h2.2.1
  refine va_newaK (N := N) x1 x2 (atype := .long) (x5 _ hcl) rfl hd rfl hn0 (by rw [inI_clamp (by omega) hi]; omega) (by show N * _ ≤ _; simp [componentBytes, newarray.typeOf]; omega) hr1 hr2 rfl fun H2 cA e1 z1 o1 hAr hNm => ?_
  have hcA : cA = G.2.2.2.1 21 := Option.some.inj (hNm.symm.trans (x6.2.1 21 (by decide) (by decide)).2)
  have k9 := k (hB u) (hmake u 21 N) r u1 H2 locs ls h1 (hR_push h2 z1 o1 ⟨fun z => ?_, fun _ => ?_⟩) h3 h4
  · unfold vR at k9
    rw [if_neg (by omega)] at k9
    rw [hz]
    exact k9
  · rw [hK_make, if_pos rfl] at z
    omega
  · unfold hrow
    rw [hK_make, hN_make, if_pos rfl, if_pos rfl]
    refine ⟨⟨by decide, by omega⟩, ?_, fun j hj => by rw [hV_make, if_pos rfl]; exact hin0⟩
    have hz2 : H.size = G.1 + hB u := hz
    rw [← hz2, e1, hcA]
    congr 2
    funext j
    rw [hV_make, hF_make, if_pos rfl, if_pos rfl]
    rfl
theorem s_newa22 {C : hCx} {cc : ByteArray} {own : String} {nL : Nat} {ret : Option FieldType} {mc ms pc pc2 : Nat} {lv : List (Nat × Value)} {st : List Value} {cells slots : Nat} {x : Int} {N : Nat} {f : Nat → hM} (X : hOK C cc own nL ret) (hd : decode cc pc = .ok (.newarray .byte, 2)) (hp : pc + 2 = pc2) (hx : x = (N : Int)) (hN4 : N ≤ 4000) (hcl : Cond.arrayClass .byte ∈ tG) (hr1 : cells + 1 ≤ C.2.2.2.2.1.cells) (hr2 : slots + N ≤ C.2.2.2.2.1.slots) (k : ∀ v, hSim C ret mc ms nL pc2 lv (vR C.1.1 v :: st) (cells + 1) (slots + N) (f v)) : hSim C ret mc ms nL pc lv (vI x :: st) cells slots (hnewA 22 N f) := by
  subst hp
  obtain ⟨G, p, l, e, R, s, m, args, below, meth, c⟩ := C
  intro u r u1 H locs ls h1 h2 h3 h4
  obtain ⟨x1, x2, x3, x4, x5, x6, x7, x8⟩ := X
  have hi : inI x := by subst hx; exact ⟨by omega, by omega⟩
  have hn0 : ¬ Int32.ofInt x < 0 := fun z => by have := (of_lt hi (inI_c 0 rfl)).mp z; omega
  have hz := h2.1
  have hb0 := h2.2.1
  refine va_newaK (N := N) x1 x2 (atype := .byte) (x5 _ hcl) rfl hd rfl hn0 (by rw [inI_clamp (by omega) hi]; omega) (by show N * _ ≤ _; simp [componentBytes, newarray.typeOf]; omega) hr1 hr2 rfl fun H2 cA e1 z1 o1 hAr hNm => ?_
  have hcA : cA = G.2.2.2.1 22 := Option.some.inj (hNm.symm.trans (x6.2.1 22 (by decide) (by decide)).2)
  have k9 := k (hB u) (hmake u 22 N) r u1 H2 locs ls h1 (hR_push h2 z1 o1 ⟨fun z => ?_, fun _ => ?_⟩) h3 h4
  · unfold vR at k9
    rw [if_neg (by omega)] at k9
    rw [hz]
    exact k9
  · rw [hK_make, if_pos rfl] at z
    omega
  · unfold hrow
    rw [hK_make, hN_make, if_pos rfl, if_pos rfl]
    refine ⟨⟨by decide, by omega⟩, ?_, fun j hj => by rw [hV_make, if_pos rfl]; exact hin0⟩
    have hz2 : H.size = G.1 + hB u := hz
    rw [← hz2, e1, hcA]
    congr 2
    funext j
    rw [hV_make, hF_make, if_pos rfl, if_pos rfl]
    rfl
theorem s_newa23 {C : hCx} {cc : ByteArray} {own : String} {nL : Nat} {ret : Option FieldType} {mc ms pc pc2 : Nat} {lv : List (Nat × Value)} {st : List Value} {cells slots : Nat} {x : Int} {N : Nat} {f : Nat → hM} (X : hOK C cc own nL ret) (hd : decode cc pc = .ok (.newarray .boolean, 2)) (hp : pc + 2 = pc2) (hx : x = (N : Int)) (hN4 : N ≤ 4000) (hcl : Cond.arrayClass .boolean ∈ tG) (hr1 : cells + 1 ≤ C.2.2.2.2.1.cells) (hr2 : slots + N ≤ C.2.2.2.2.1.slots) (k : ∀ v, hSim C ret mc ms nL pc2 lv (vR C.1.1 v :: st) (cells + 1) (slots + N) (f v)) : hSim C ret mc ms nL pc lv (vI x :: st) cells slots (hnewA 23 N f) := by
  subst hp
  obtain ⟨G, p, l, e, R, s, m, args, below, meth, c⟩ := C
  intro u r u1 H locs ls h1 h2 h3 h4
  obtain ⟨x1, x2, x3, x4, x5, x6, x7, x8⟩ := X
  have hi : inI x := by subst hx; exact ⟨by omega, by omega⟩
  have hn0 : ¬ Int32.ofInt x < 0 := fun z => by have := (of_lt hi (inI_c 0 rfl)).mp z; omega
  have hz := h2.1
  have hb0 := h2.2.1
  refine va_newaK (N := N) x1 x2 (atype := .boolean) (x5 _ hcl) rfl hd rfl hn0 (by rw [inI_clamp (by omega) hi]; omega) (by show N * _ ≤ _; simp [componentBytes, newarray.typeOf]; omega) hr1 hr2 rfl fun H2 cA e1 z1 o1 hAr hNm => ?_
  have hcA : cA = G.2.2.2.1 23 := Option.some.inj (hNm.symm.trans (x6.2.1 23 (by decide) (by decide)).2)
  have k9 := k (hB u) (hmake u 23 N) r u1 H2 locs ls h1 (hR_push h2 z1 o1 ⟨fun z => ?_, fun _ => ?_⟩) h3 h4
  · unfold vR at k9
    rw [if_neg (by omega)] at k9
    rw [hz]
    exact k9
  · rw [hK_make, if_pos rfl] at z
    omega
  · unfold hrow
    rw [hK_make, hN_make, if_pos rfl, if_pos rfl]
    refine ⟨⟨by decide, by omega⟩, ?_, fun j hj => by rw [hV_make, if_pos rfl]; exact hin0⟩
    have hz2 : H.size = G.1 + hB u := hz
    rw [← hz2, e1, hcA]
    congr 2
    funext j
    rw [hV_make, hF_make, if_pos rfl, if_pos rfl]
    rfl
theorem s_anew24 {C : hCx} {cc : ByteArray} {own : String} {nL : Nat} {ret : Option FieldType} {mc ms pc pc2 : Nat} {lv : List (Nat × Value)} {st : List Value} {cells slots : Nat} {idx : Nat} {x : Int} {N : Nat} {f : Nat → hM} (X : hOK C cc own nL ret) (hd : decode cc pc = .ok (.anewarray idx, 3)) (hp : pc + 3 = pc2) (hx : x = (N : Int)) (hN4 : N ≤ 4000) (hcl : Cond.classLink own idx RX3 ∈ tG) (hr1 : cells + 1 ≤ C.2.2.2.2.1.cells) (hr2 : slots + N ≤ C.2.2.2.2.1.slots) (k : ∀ v, hSim C ret mc ms nL pc2 lv (vR C.1.1 v :: st) (cells + 1) (slots + N) (f v)) : hSim C ret mc ms nL pc lv (vI x :: st) cells slots (hnewA 24 N f) := by
  subst hp
  obtain ⟨G, p, l, e, R, s, m, args, below, meth, c⟩ := C
  intro u r u1 H locs ls h1 h2 h3 h4
  obtain ⟨x1, x2, x3, x4, x5, x6, x7, x8⟩ := X
  have hi : inI x := by subst hx; exact ⟨by omega, by omega⟩
  have hn0 : ¬ Int32.ofInt x < 0 := fun z => by have := (of_lt hi (inI_c 0 rfl)).mp z; omega
  have hcn : (Int32.ofInt x).toNatClampNeg = N := by rw [inI_clamp (by omega) hi]; omega
  have hz := h2.1
  have hb0 := h2.2.1
  refine W.anew (g := F0 m pc ls (vI x :: st)) x1 x2 x4 (x5 _ hcl) (va_AO.use (x6.2.2.1.2 RX3 (by decide))) rfl hd rfl hn0 (by rw [hcn]; omega) hr1 (by rw [hcn]; exact hr2) fun cA kA comp q1 q2 q3 q4 => ?_
  have hcA : cA = G.2.2.2.1 24 := by
    obtain ⟨_, _, _, _, _, q5⟩ := (x6.2.1 24 (by decide) (by decide)).2
    exact Option.some.inj (q1.symm.trans q5)
  rw [hcn]
  have k9 := k (hB u) (hmake u 24 N) r u1 (H.push { cls := cA, slots := Array.replicate N .null, vm := .none }) locs ls h1 (hR_push h2 (by simp) (fun q hq => by rw [Array.getElem?_push, if_neg (Nat.ne_of_lt hq)]) ⟨fun z => ?_, fun _ => ?_⟩) h3 h4
  · unfold vR at k9
    rw [if_neg (by omega)] at k9
    rw [hz]
    exact k9
  · rw [hK_make, if_pos rfl] at z
    omega
  · unfold hrow
    rw [hK_make, hN_make, if_pos rfl, if_pos rfl]
    refine ⟨⟨by decide, by omega⟩, ?_, fun j hj => by rw [hV_make, if_pos rfl]; exact hin0⟩
    have hz2 : H.size = G.1 + hB u := hz
    rw [← hz2, arrV_new, hcA]
    simp only [Array.getElem?_push, if_true]
    congr 2
    funext j
    rw [hV_make, hF_make, if_pos rfl, if_pos rfl]
    rfl
theorem s_anew25 {C : hCx} {cc : ByteArray} {own : String} {nL : Nat} {ret : Option FieldType} {mc ms pc pc2 : Nat} {lv : List (Nat × Value)} {st : List Value} {cells slots : Nat} {idx : Nat} {x : Int} {N : Nat} {f : Nat → hM} (X : hOK C cc own nL ret) (hd : decode cc pc = .ok (.anewarray idx, 3)) (hp : pc + 3 = pc2) (hx : x = (N : Int)) (hN4 : N ≤ 4000) (hcl : Cond.classLink own idx RX4 ∈ tG) (hr1 : cells + 1 ≤ C.2.2.2.2.1.cells) (hr2 : slots + N ≤ C.2.2.2.2.1.slots) (k : ∀ v, hSim C ret mc ms nL pc2 lv (vR C.1.1 v :: st) (cells + 1) (slots + N) (f v)) : hSim C ret mc ms nL pc lv (vI x :: st) cells slots (hnewA 25 N f) := by
  subst hp
  obtain ⟨G, p, l, e, R, s, m, args, below, meth, c⟩ := C
  intro u r u1 H locs ls h1 h2 h3 h4
  obtain ⟨x1, x2, x3, x4, x5, x6, x7, x8⟩ := X
  have hi : inI x := by subst hx; exact ⟨by omega, by omega⟩
  have hn0 : ¬ Int32.ofInt x < 0 := fun z => by have := (of_lt hi (inI_c 0 rfl)).mp z; omega
  have hcn : (Int32.ofInt x).toNatClampNeg = N := by rw [inI_clamp (by omega) hi]; omega
  have hz := h2.1
  have hb0 := h2.2.1
  refine W.anew (g := F0 m pc ls (vI x :: st)) x1 x2 x4 (x5 _ hcl) (va_AO.use (x6.2.2.1.2 RX4 (by decide))) rfl hd rfl hn0 (by rw [hcn]; omega) hr1 (by rw [hcn]; exact hr2) fun cA kA comp q1 q2 q3 q4 => ?_
  have hcA : cA = G.2.2.2.1 25 := by
    obtain ⟨_, _, _, _, _, q5⟩ := (x6.2.1 25 (by decide) (by decide)).2
    exact Option.some.inj (q1.symm.trans q5)
  rw [hcn]
  have k9 := k (hB u) (hmake u 25 N) r u1 (H.push { cls := cA, slots := Array.replicate N .null, vm := .none }) locs ls h1 (hR_push h2 (by simp) (fun q hq => by rw [Array.getElem?_push, if_neg (Nat.ne_of_lt hq)]) ⟨fun z => ?_, fun _ => ?_⟩) h3 h4
  · unfold vR at k9
    rw [if_neg (by omega)] at k9
    rw [hz]
    exact k9
  · rw [hK_make, if_pos rfl] at z
    omega
  · unfold hrow
    rw [hK_make, hN_make, if_pos rfl, if_pos rfl]
    refine ⟨⟨by decide, by omega⟩, ?_, fun j hj => by rw [hV_make, if_pos rfl]; exact hin0⟩
    have hz2 : H.size = G.1 + hB u := hz
    rw [← hz2, arrV_new, hcA]
    simp only [Array.getElem?_push, if_true]
    congr 2
    funext j
    rw [hV_make, hF_make, if_pos rfl, if_pos rfl]
    rfl
theorem s_anew26 {C : hCx} {cc : ByteArray} {own : String} {nL : Nat} {ret : Option FieldType} {mc ms pc pc2 : Nat} {lv : List (Nat × Value)} {st : List Value} {cells slots : Nat} {idx : Nat} {x : Int} {N : Nat} {f : Nat → hM} (X : hOK C cc own nL ret) (hd : decode cc pc = .ok (.anewarray idx, 3)) (hp : pc + 3 = pc2) (hx : x = (N : Int)) (hN4 : N ≤ 4000) (hcl : Cond.classLink own idx RX0 ∈ tG) (hr1 : cells + 1 ≤ C.2.2.2.2.1.cells) (hr2 : slots + N ≤ C.2.2.2.2.1.slots) (k : ∀ v, hSim C ret mc ms nL pc2 lv (vR C.1.1 v :: st) (cells + 1) (slots + N) (f v)) : hSim C ret mc ms nL pc lv (vI x :: st) cells slots (hnewA 26 N f) := by
  subst hp
  obtain ⟨G, p, l, e, R, s, m, args, below, meth, c⟩ := C
  intro u r u1 H locs ls h1 h2 h3 h4
  obtain ⟨x1, x2, x3, x4, x5, x6, x7, x8⟩ := X
  have hi : inI x := by subst hx; exact ⟨by omega, by omega⟩
  have hn0 : ¬ Int32.ofInt x < 0 := fun z => by have := (of_lt hi (inI_c 0 rfl)).mp z; omega
  have hcn : (Int32.ofInt x).toNatClampNeg = N := by rw [inI_clamp (by omega) hi]; omega
  have hz := h2.1
  have hb0 := h2.2.1
  refine W.anew (g := F0 m pc ls (vI x :: st)) x1 x2 x4 (x5 _ hcl) (va_AO.use (x6.2.2.1.2 RX0 (by decide))) rfl hd rfl hn0 (by rw [hcn]; omega) hr1 (by rw [hcn]; exact hr2) fun cA kA comp q1 q2 q3 q4 => ?_
  have hcA : cA = G.2.2.2.1 26 := by
    obtain ⟨_, _, _, _, _, q5⟩ := (x6.2.1 26 (by decide) (by decide)).2
    exact Option.some.inj (q1.symm.trans q5)
  rw [hcn]
  have k9 := k (hB u) (hmake u 26 N) r u1 (H.push { cls := cA, slots := Array.replicate N .null, vm := .none }) locs ls h1 (hR_push h2 (by simp) (fun q hq => by rw [Array.getElem?_push, if_neg (Nat.ne_of_lt hq)]) ⟨fun z => ?_, fun _ => ?_⟩) h3 h4
  · unfold vR at k9
    rw [if_neg (by omega)] at k9
    rw [hz]
    exact k9
  · rw [hK_make, if_pos rfl] at z
    omega
  · unfold hrow
    rw [hK_make, hN_make, if_pos rfl, if_pos rfl]
    refine ⟨⟨by decide, by omega⟩, ?_, fun j hj => by rw [hV_make, if_pos rfl]; exact hin0⟩
    have hz2 : H.size = G.1 + hB u := hz
    rw [← hz2, arrV_new, hcA]
    simp only [Array.getElem?_push, if_true]
    congr 2
    funext j
    rw [hV_make, hF_make, if_pos rfl, if_pos rfl]
    rfl
theorem s_aast24 {C : hCx} {cc : ByteArray} {own : String} {nL : Nat} {ret : Option FieldType} {mc ms pc pc2 : Nat} {lv : List (Nat × Value)} {st : List Value} {cells slots : Nat} {a x : Nat} {i : Int} {P : hM} (X : hOK C cc own nL ret) (hd : decode cc pc = .ok (.aastore, 1)) (hp : pc + 1 = pc2) (k : hSim C ret mc ms nL pc2 lv st cells slots P) : hSim C ret mc ms nL pc lv (vR C.1.1 x :: vI i :: vR C.1.1 a :: st) cells slots (hsR 24 a i 3 x P) := by
  subst hp
  obtain ⟨G, p, l, e, R, s, m, args, below, meth, c⟩ := C
  intro u r u1 H locs ls h1 h2 h3 h4
  by_cases ha : (hok u a 24 ∧ 0 ≤ i ∧ i < (hN u a : Int)) ∧ hok u x 3
  · rw [show hsR 24 a i 3 x P u = P (hsetF u a i.toNat x) from if_pos ha] at h1
    obtain ⟨⟨ha, hi1, hi2⟩, hx⟩ := ha
    obtain ⟨g1, g2, g3, -⟩ := hg_row h2 ha (by decide)
    obtain ⟨j1, j2, j3, j4⟩ := hg_ix hi1 hi2 g3
    obtain ⟨y1, y2, y3⟩ := hx
    obtain ⟨q, q1, ⟨cv, v1, v2, v3, v4⟩, -⟩ := (h2.2.2.2 x y1 y2).1 (by rw [y3]; decide)
    rw [y3] at q1 v2
    obtain ⟨kA, comp, t1, t2, t3, t4⟩ := (X.2.2.2.2.2.1.2.1 24 (by decide) (by decide)).2
    have hKn := (X.2.2.2.2.2.1.1.1 3 _ q1).2
    cases q1.symm.trans (show vwCl[3]? = some (RX3, _, _) from rfl)
    obtain ⟨hfc, kC, hkC, hkind⟩ := hKn
    have hcc : comp = G.2.2.1.1 3 := Option.some.inj (t3.symm.trans hfc)
    show W p l e R s m args below meth c H locs cells slots (hMQ (G, p, l, e, R, s, m, args, below, meth, c) ret mc ms r u1) (F0 m pc ls (vR G.1 x :: vI i :: vR G.1 a :: st))
    have ea : vR G.1 a = .ref (G.1 + a) := if_neg (by have := ha.1; omega)
    have ex : vR G.1 x = .ref (G.1 + x) := if_neg (by omega)
    rw [ea, ex]
    refine W.aast (t := etOf 24) (comp := comp) (kcomp := kC) X.1 X.2.1 g1 (fun q z => by cases z) (fun z => by cases z) t1 t2 rfl (by rw [hcc]; exact hkC) ⟨fun z => j2 (Or.inl z), by rw [arrV_size, j3]; exact j4⟩ v1 (fun q z => by rw [v3] at z; cases z) (by rw [v2]; exact hkC) (by rw [v2, hcc]; exact va_asg _ _) rfl rfl hd (fun H2 e1 e2 e3 => ?_)
    exact k _ r u1 H2 _ ls h1 (hR_rowF h2 ha (by decide) rfl (by rw [e1, j3, arrV_store, ex]) e2 e3) (t_lc h3 (show G.1 < G.1 + a by have := ha.1; omega)) h4
  · rw [show hsR 24 a i 3 x P u = none from if_neg ha] at h1
    cases h1
theorem s_aast25 {C : hCx} {cc : ByteArray} {own : String} {nL : Nat} {ret : Option FieldType} {mc ms pc pc2 : Nat} {lv : List (Nat × Value)} {st : List Value} {cells slots : Nat} {a x : Nat} {i : Int} {P : hM} (X : hOK C cc own nL ret) (hd : decode cc pc = .ok (.aastore, 1)) (hp : pc + 1 = pc2) (k : hSim C ret mc ms nL pc2 lv st cells slots P) : hSim C ret mc ms nL pc lv (vR C.1.1 x :: vI i :: vR C.1.1 a :: st) cells slots (hsR 25 a i 4 x P) := by
  subst hp
  obtain ⟨G, p, l, e, R, s, m, args, below, meth, c⟩ := C
  intro u r u1 H locs ls h1 h2 h3 h4
  by_cases ha : (hok u a 25 ∧ 0 ≤ i ∧ i < (hN u a : Int)) ∧ hok u x 4
  · rw [show hsR 25 a i 4 x P u = P (hsetF u a i.toNat x) from if_pos ha] at h1
    obtain ⟨⟨ha, hi1, hi2⟩, hx⟩ := ha
    obtain ⟨g1, g2, g3, -⟩ := hg_row h2 ha (by decide)
    obtain ⟨j1, j2, j3, j4⟩ := hg_ix hi1 hi2 g3
    obtain ⟨y1, y2, y3⟩ := hx
    obtain ⟨q, q1, ⟨cv, v1, v2, v3, v4⟩, -⟩ := (h2.2.2.2 x y1 y2).1 (by rw [y3]; decide)
    rw [y3] at q1 v2
    obtain ⟨kA, comp, t1, t2, t3, t4⟩ := (X.2.2.2.2.2.1.2.1 25 (by decide) (by decide)).2
    have hKn := (X.2.2.2.2.2.1.1.1 4 _ q1).2
    cases q1.symm.trans (show vwCl[4]? = some (RX4, _, _) from rfl)
    obtain ⟨hfc, kC, hkC, hkind⟩ := hKn
    have hcc : comp = G.2.2.1.1 4 := Option.some.inj (t3.symm.trans hfc)
    show W p l e R s m args below meth c H locs cells slots (hMQ (G, p, l, e, R, s, m, args, below, meth, c) ret mc ms r u1) (F0 m pc ls (vR G.1 x :: vI i :: vR G.1 a :: st))
    have ea : vR G.1 a = .ref (G.1 + a) := if_neg (by have := ha.1; omega)
    have ex : vR G.1 x = .ref (G.1 + x) := if_neg (by omega)
    rw [ea, ex]
    refine W.aast (t := etOf 25) (comp := comp) (kcomp := kC) X.1 X.2.1 g1 (fun q z => by cases z) (fun z => by cases z) t1 t2 rfl (by rw [hcc]; exact hkC) ⟨fun z => j2 (Or.inl z), by rw [arrV_size, j3]; exact j4⟩ v1 (fun q z => by rw [v3] at z; cases z) (by rw [v2]; exact hkC) (by rw [v2, hcc]; exact va_asg _ _) rfl rfl hd (fun H2 e1 e2 e3 => ?_)
    exact k _ r u1 H2 _ ls h1 (hR_rowF h2 ha (by decide) rfl (by rw [e1, j3, arrV_store, ex]) e2 e3) (t_lc h3 (show G.1 < G.1 + a by have := ha.1; omega)) h4
  · rw [show hsR 25 a i 4 x P u = none from if_neg ha] at h1
    cases h1
theorem s_aast26 {C : hCx} {cc : ByteArray} {own : String} {nL : Nat} {ret : Option FieldType} {mc ms pc pc2 : Nat} {lv : List (Nat × Value)} {st : List Value} {cells slots : Nat} {a x : Nat} {i : Int} {P : hM} (X : hOK C cc own nL ret) (hd : decode cc pc = .ok (.aastore, 1)) (hp : pc + 1 = pc2) (k : hSim C ret mc ms nL pc2 lv st cells slots P) : hSim C ret mc ms nL pc lv (vR C.1.1 x :: vI i :: vR C.1.1 a :: st) cells slots (hsR 26 a i 0 x P) := by
  subst hp
  obtain ⟨G, p, l, e, R, s, m, args, below, meth, c⟩ := C
  intro u r u1 H locs ls h1 h2 h3 h4
  by_cases ha : (hok u a 26 ∧ 0 ≤ i ∧ i < (hN u a : Int)) ∧ hok u x 0
  · rw [show hsR 26 a i 0 x P u = P (hsetF u a i.toNat x) from if_pos ha] at h1
    obtain ⟨⟨ha, hi1, hi2⟩, hx⟩ := ha
    obtain ⟨g1, g2, g3, -⟩ := hg_row h2 ha (by decide)
    obtain ⟨j1, j2, j3, j4⟩ := hg_ix hi1 hi2 g3
    obtain ⟨y1, y2, y3⟩ := hx
    obtain ⟨q, q1, ⟨cv, v1, v2, v3, v4⟩, -⟩ := (h2.2.2.2 x y1 y2).1 (by rw [y3]; decide)
    rw [y3] at q1 v2
    obtain ⟨kA, comp, t1, t2, t3, t4⟩ := (X.2.2.2.2.2.1.2.1 26 (by decide) (by decide)).2
    have hKn := (X.2.2.2.2.2.1.1.1 0 _ q1).2
    cases q1.symm.trans (show vwCl[0]? = some (RX0, _, _) from rfl)
    obtain ⟨hfc, kC, hkC, hkind⟩ := hKn
    have hcc : comp = G.2.2.1.1 0 := Option.some.inj (t3.symm.trans hfc)
    show W p l e R s m args below meth c H locs cells slots (hMQ (G, p, l, e, R, s, m, args, below, meth, c) ret mc ms r u1) (F0 m pc ls (vR G.1 x :: vI i :: vR G.1 a :: st))
    have ea : vR G.1 a = .ref (G.1 + a) := if_neg (by have := ha.1; omega)
    have ex : vR G.1 x = .ref (G.1 + x) := if_neg (by omega)
    rw [ea, ex]
    refine W.aast (t := etOf 26) (comp := comp) (kcomp := kC) X.1 X.2.1 g1 (fun q z => by cases z) (fun z => by cases z) t1 t2 rfl (by rw [hcc]; exact hkC) ⟨fun z => j2 (Or.inl z), by rw [arrV_size, j3]; exact j4⟩ v1 (fun q z => by rw [v3] at z; cases z) (by rw [v2]; exact hkC) (by rw [v2, hcc]; exact va_asg _ _) rfl rfl hd (fun H2 e1 e2 e3 => ?_)
    exact k _ r u1 H2 _ ls h1 (hR_rowF h2 ha (by decide) rfl (by rw [e1, j3, arrV_store, ex]) e2 e3) (t_lc h3 (show G.1 < G.1 + a by have := ha.1; omega)) h4
  · rw [show hsR 26 a i 0 x P u = none from if_neg ha] at h1
    cases h1
