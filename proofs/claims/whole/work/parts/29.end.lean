def R_law : String := "ThriceBridgeLaw"
def lw_P (b : Addr) (xs : List Int32) (args : Array Value) (s : State) : Prop := args = #[.ref b] ∧ s.IntsAt b xs ∧ xs.length ≤ 3072 ∧ (Jvm.Cond.and given_1 narrow_1).before args s = true
def lw_Q (_ : Array Value) (s : State) (o : Outcome) (t : State) : Prop := o = .returned (some (.int 1)) ∧ Framed s o t [] 600000 7302250
def lw_Z (below : List Frame) (a : Array Value) (s : State) : State → Prop := fun t => ∃ o, t.status = .running ∧ Ended t below o ∧ lw_Q a s o t
/-- the law's own end, with 1 on the stack, nothing written that was there before, its room as the claim has it -/
theorem lw_ret {p : Program} {l : Launch} {e : Env} {s : State} {m : MethodId} {below : List Frame} {meth : Method} {c : Code} {b : Nat} (hx : p.tables.exec = Jvm.exec) (hb : c.code = code) (hr : meth.sig.returnType = ret) (hlocks : meth.locks = false) {pc : Nat} {H : Heap} {ls : Array Slot} (hdg : decode code pc = .ok (.ireturn, 1)) : W p l e room_1 s m #[Value.ref b] below meth c H [] 600000 7302250 (lw_Z below #[Value.ref b] s) (F0 m pc ls [.int 1]) := by
  intro T hT X
  obtain ⟨fs, hret, hrun, hended, hW, hframe⟩ := X.leave (v := some (.int 1)) (hlocks := hlocks) (fun h => by rw [hr] at h; cases h)
  have hmeth' : T.vm.method? m = some meth := X.method'
  refine ⟨T.setFrames fs, ?_, .returned (some (.int 1)), hrun, hended, rfl, ⟨_, rfl⟩, hW, hframe⟩
  jvm_step X.here [X.here.top, hx, hb, hdg, hmeth', hr, ret, narrow_b1]
  (try refine ⟨rfl, ?_⟩); (try refine ⟨rfl, ?_⟩)
  first | (intro acts; rw [hret _ acts rfl rfl rfl]) | rw [hret _ _ rfl rfl rfl]
  exact Steps.refl _
/-- what holds at the law's entry: the machine, the code, the tables' words (any of lw_tbl by 'hts w (by decide +kernel)'), the script of L ints xs at the cell b, what the Statement gives of the start (any of its parts by flat_of_before) -/
def lw_At (p : Program) (s : State) (m : MethodId) (meth : Method) (c : Code) (b L : Nat) (xs : Nat → Int32) : Prop :=
  p.tables.exec = Jvm.exec ∧ c.code = code ∧ meth.sig.returnType = ret ∧ c.maxLocals = 4 ∧ s.vm.findClass R_law = some m.cls ∧ (∀ w ∈ lw_tbl, w.before #[Value.ref b] s = true) ∧ va_X b L xs s s.heap ∧ b < s.heap.size ∧ meth.locks = false ∧ (Jvm.Cond.and given_1 narrow_1).before #[Value.ref b] s = true

/-- what the String constants are -/
def strTm (i : Nat) : Term := match i with
  | 0 => .string "ThriceBridge$Town" 86
  | 1 => .string "ThriceBridge$Rule" 46
  | 2 => .string "ThriceBridge$Rule" 132
  | 3 => .string "ThriceBridge$Rule" 56
  | 4 => .string "ThriceBridge$Rule" 94
  | 5 => .string "ThriceBridge$Rule" 80
  | _ => .string "ThriceBridge$Rule" 85
def flatN : List Cond := flatC (Jvm.Cond.and given_1 narrow_1)
theorem st_1 : ∀ i, i < 7 → Cond.exactly (strTm i) "java/lang/String" ∈ flatN := by decide +kernel
theorem st_2 : ∀ i, i < 7 → Cond.eq (.field (strTm i) "java/lang/String" "coder" "B") (.int 0) ∈ flatN := by decide +kernel
theorem st_3 : ∀ i, i < 7 → Cond.arrayOf (.field (strTm i) "java/lang/String" "value" "[B") .byte ∈ flatN := by decide +kernel
theorem st_4 : ∀ i, i < 7 → Cond.eq (.length (.field (strTm i) "java/lang/String" "value" "[B")) (.int (Int32.ofNat (strN.getD i 0))) ∈ flatN := by decide +kernel
theorem st_5 : ∀ i, i < 7 → ∀ j, j < strN.getD i 0 → Cond.eq (.elem (.field (strTm i) "java/lang/String" "value" "[B") (.int (Int32.ofNat j))) (.int ((strB.getD i []).getD j 0)) ∈ flatN := by decide +kernel
theorem st_6 : ∀ i, i < 7 → ∀ j, j < 7 → i ≠ j → Cond.not (Cond.eq (strTm i) (strTm j)) ∈ flatN ∨ Cond.not (Cond.eq (strTm j) (strTm i)) ∈ flatN := by decide +kernel
theorem st_7 : Cond.eq (.static "java/lang/String" "COMPACT_STRINGS" "Z") (.int 1) ∈ flatN := by decide +kernel
theorem st_8 : Cond.isRef (.static "jdk/internal/util/Preconditions" "SIOOBE_FORMATTER" "Ljava/util/function/BiFunction;") ∈ flatN := by decide +kernel

/-- what the launch gives at the law's entry -/
theorem lw_hT {s : State} {b : Nat} (hts : ∀ w ∈ lw_tbl, w.before #[Value.ref b] s = true) (hgv : (Jvm.Cond.and given_1 narrow_1).before #[Value.ref b] s = true) (hbl : b < s.heap.size) : ∃ G : hG, G.1 + 1 = s.heap.size ∧ G.2.1 = s.heap ∧ hT G s := by
  have hg : ∀ w ∈ tG, w.before #[Value.ref b] s = true := fun w h => hts w (List.mem_filter.mp h).1
  have hn := flat_of_before _ hgv
  obtain ⟨c0, i0, n0⟩ := u_known (C := RX0) (T := TX0) (N := 3) (n := 3) hg wG0 (hg _ kX0.2.2.2.2.2.2)
  obtain ⟨c1, i1, n1⟩ := u_known (C := RX1) (T := TX1) (N := 4) (n := 4) hg wG1 (hg _ kX1.2.2.2.2.2.2)
  obtain ⟨c2, i2, n2⟩ := u_known (C := RX2) (T := TX2) (N := 10) (n := 10) hg wG2 (hg _ kX2.2.2.2.2.2.2)
  obtain ⟨c3, i3, n3⟩ := u_known (C := RX3) (T := TX3) (N := 9) (n := 9) hg wG3 (hg _ kX3.2.2.2.2.2.2)
  obtain ⟨c4, i4, n4⟩ := u_known (C := RX4) (T := TX4) (N := 6) (n := 6) hg wG4 (hg _ kX4.2.2.2.2.2.2)
  obtain ⟨c5, i5, n5⟩ := u_known (C := RX5) (T := TX5) (N := 10) (n := 10) hg wG5 (hg _ kX5.2.2.2.2.2.2)
  obtain ⟨c6, i6, n6⟩ := u_known (C := RX6) (T := TX6) (N := 5) (n := 5) hg wG6 (hg _ kX6.2.2.2.2.2.2)
  obtain ⟨c7, i7, n7⟩ := u_known (C := RX7) (T := TX7) (N := 16) (n := 16) hg wG7 (hg _ kX7.2.2.2.2.2.2)
  obtain ⟨c8, i8, n8⟩ := u_known (C := RX8) (T := TX8) (N := 4) (n := 4) hg wG8 (hg _ kX8.2.2.2.2.2.2)
  obtain ⟨c9, i9, n9⟩ := u_known (C := RX9) (T := TX9) (N := 18) (n := 18) hg wG9 (hg _ kX9.2.2.2.2.2.2)
  obtain ⟨c10, i10, n10⟩ := u_known (C := RX10) (T := TX10) (N := 43) (n := 43) hg wG10 (hg _ kX10.2.2.2.2.2.2)
  obtain ⟨D, hKc⟩ : ∃ D : va_G, ∀ (k : Nat) (q : vw_C), vwCl[k]? = some q → u_Kn s q.1 q.2.1 q.2.2 (D.1 k) (D.2 k) := by
    refine ⟨(fun k => if k = 0 then c0 else if k = 1 then c1 else if k = 2 then c2 else if k = 3 then c3 else if k = 4 then c4 else if k = 5 then c5 else if k = 6 then c6 else if k = 7 then c7 else if k = 8 then c8 else if k = 9 then c9 else c10, fun k => if k = 0 then i0 else if k = 1 then i1 else if k = 2 then i2 else if k = 3 then i3 else if k = 4 then i4 else if k = 5 then i5 else if k = 6 then i6 else if k = 7 then i7 else if k = 8 then i8 else if k = 9 then i9 else i10), ?_⟩
    intro k q hq
    match k, hq with
    | 0, hq => cases hq; exact n0
    | 1, hq => cases hq; exact n1
    | 2, hq => cases hq; exact n2
    | 3, hq => cases hq; exact n3
    | 4, hq => cases hq; exact n4
    | 5, hq => cases hq; exact n5
    | 6, hq => cases hq; exact n6
    | 7, hq => cases hq; exact n7
    | 8, hq => cases hq; exact n8
    | 9, hq => cases hq; exact n9
    | 10, hq => cases hq; exact n10
    | k + 11, hq => simp [vwCl] at hq
  obtain ⟨aI, kI, mI, qI1, qI2, qI3⟩ := Cond.arrayClass_spec (hg _ ac_int)
  obtain ⟨aJ, kJ, mJ, qJ1, qJ2, qJ3⟩ := Cond.arrayClass_spec (hg _ ac_long)
  obtain ⟨aB, kB, mB, qB1, qB2, qB3⟩ := Cond.arrayClass_spec (hg _ ac_byte)
  obtain ⟨aZ, kZ, mZ, qZ1, qZ2, qZ3⟩ := Cond.arrayClass_spec (hg _ ac_boolean)
  have o1 : (Cond.arrayOver (.object RX3)).before #[Value.ref b] s = true := hts _ (tb_1 _ (List.mem_of_getElem? (i := 61) (by decide +kernel)))
  have o2 : (Cond.arrayOver (.object RX4)).before #[Value.ref b] s = true := hts _ (tb_1 _ (List.mem_of_getElem? (i := 63) (by decide +kernel)))
  have o3 : (Cond.arrayOver (.object RX0)).before #[Value.ref b] s = true := hts _ (tb_1 _ (List.mem_of_getElem? (i := 65) (by decide +kernel)))
  obtain ⟨m1, a1, k1, p11, p12, p13, p14, p15⟩ := Cond.arrayOver_spec o1
  obtain ⟨m2, a2, k2, p21, p22, p23, p24, p25⟩ := Cond.arrayOver_spec o2
  obtain ⟨m3, a3, k3, p31, p32, p33, p34, p35⟩ := Cond.arrayOver_spec o3
  have hA0 : ∀ a : Nat, a < s.heap.size → ¬ (fun q : Nat => s.heap.size - 1 < q) a := fun a h z => by have z : s.heap.size - 1 < a := z; omega
  obtain ⟨adK, adV, hS, hev⟩ := vk_Sof (args := #[Value.ref b]) (s := s) (N := 7) (tm := strTm) (len := strN) (byt := strB) (A := fun q : Nat => s.heap.size - 1 < q) (fun i hi => by have := strN_lt i hi; omega) (fun i hi => hn _ (st_1 i hi)) (fun i hi => hn _ (st_2 i hi)) (fun i hi => hn _ (st_3 i hi)) (fun i hi => hn _ (st_4 i hi)) (fun i hi j hj => hn _ (st_5 i hi j hj)) (fun i j hi hj hij => (st_6 i hi j hj hij).imp (hn _) (hn _)) hA0
  have mk : ∀ (n : Nat) (cA : ClassId) (kA : Class) (comp : ClassId) (ty : FieldType), s.vm.classes[cA]? = some kA → kA.kind = .array comp ty → ArrOfT s cA ty := fun _ cA kA comp ty h2 h3 n z => ⟨fun k h => (by cases h), kA, h2, comp, h3⟩
  refine ⟨(s.heap.size - 1, s.heap, D, (fun k => if k = 20 then aI else if k = 21 then aJ else if k = 22 then aB else if k = 23 then aZ else if k = 24 then a1 else if k = 25 then a2 else a3), adK, adV), by show s.heap.size - 1 + 1 = _; omega, rfl, ⟨hKc, fun k q h => by simp at h⟩, ?_, ⟨?_, ?_⟩, ⟨hS, ?_, ?_, ?_⟩, ?_⟩
  · intro k h1 h2
    rcases (show k = 20 ∨ k = 21 ∨ k = 22 ∨ k = 23 ∨ k = 24 ∨ k = 25 ∨ k = 26 by omega) with rfl | rfl | rfl | rfl | rfl | rfl | rfl
    · exact ⟨mk 0 aI kI mI .int qI2 qI3, qI1⟩
    · exact ⟨mk 0 aJ kJ mJ .long qJ2 qJ3, qJ1⟩
    · exact ⟨mk 0 aB kB mB .byte qB2 qB3, qB1⟩
    · exact ⟨mk 0 aZ kZ mZ .boolean qZ2 qZ3, qZ1⟩
    · exact ⟨mk 0 a1 k1 m1 _ p13 p14, k1, m1, p13, p14, p11, p15⟩
    · exact ⟨mk 0 a2 k2 m2 _ p23 p24, k2, m2, p23, p24, p21, p25⟩
    · exact ⟨mk 0 a3 k3 m3 _ p33 p34, k3, m3, p33, p34, p31, p35⟩
  · intro q hq
    simp only [nestL, List.mem_cons, List.not_mem_nil, or_false] at hq
    rcases hq with rfl | rfl | rfl
    · exact va_Nw.of rfl (hts _ (tb_1 _ (List.mem_of_getElem? (i := 30) (by decide +kernel))))
    · exact va_Nw.of rfl (hts _ (tb_1 _ (List.mem_of_getElem? (i := 68) (by decide +kernel))))
    · exact va_Nw.of rfl (hts _ (tb_2 _ (List.mem_of_getElem? (i := 83) (by decide +kernel))))
  · intro Cn hC
    simp only [List.mem_cons, List.not_mem_nil, or_false] at hC
    rcases hC with rfl | rfl | rfl
    · exact va_AO.of o1
    · exact va_AO.of o2
    · exact va_AO.of o3
  · intro i q hq
    match i, hq with
    | 0, hq => cases hq; exact vk_R.of (hts _ (tb_2 _ (List.mem_of_getElem? (i := 218) (by decide +kernel)))) (hev 0 (by decide))
    | 1, hq => cases hq; exact vk_R.of (hts _ (tb_3 _ (List.mem_of_getElem? (i := 128) (by decide +kernel)))) (hev 1 (by decide))
    | 2, hq => cases hq; exact vk_R.of (hts _ (tb_3 _ (List.mem_of_getElem? (i := 146) (by decide +kernel)))) (hev 2 (by decide))
    | 3, hq => cases hq; exact vk_R.of (hts _ (tb_3 _ (List.mem_of_getElem? (i := 152) (by decide +kernel)))) (hev 3 (by decide))
    | 4, hq => cases hq; exact vk_R.of (hts _ (tb_3 _ (List.mem_of_getElem? (i := 169) (by decide +kernel)))) (hev 4 (by decide))
    | 5, hq => cases hq; exact vk_R.of (hts _ (tb_3 _ (List.mem_of_getElem? (i := 179) (by decide +kernel)))) (hev 5 (by decide))
    | 6, hq => cases hq; exact vk_R.of (hts _ (tb_3 _ (List.mem_of_getElem? (i := 180) (by decide +kernel)))) (hev 6 (by decide))
    | i + 7, hq => simp [strT] at hq
  · exact va_Zof (hts _ (tb_3 _ (List.mem_of_getElem? (i := 0) (by decide +kernel)))) (hg _ (tG_in tb_1 13 (by decide +kernel) rfl)) (va_eqi (hn _ st_7)) hA0
  · exact va_Zqof (hts _ (tb_3 _ (List.mem_of_getElem? (i := 16) (by decide +kernel)))) (hg _ (tG_in tb_1 15 (by decide +kernel) rfl)) (hn _ st_8) hA0
  · show s.heap.size = s.heap.size - 1 + 1; omega
/-- the memory at the start: nothing is made -/
def hS0 : hS := ((fun _ => 0), (fun _ => 0), (fun _ _ => 0), (fun _ _ => 0), 1)
theorem W_mono {p : Program} {l : Launch} {e : Env} {R : Room} {s : State} {m : MethodId} {args : Array Value} {below : List Frame} {meth : Method} {c : Code} {H : Heap} {locs : List Loc} {cells slots : Nat} {Q Q2 : State → Prop} {g : JFrame} (h : ∀ t, Q t → Q2 t) (k : W p l e R s m args below meth c H locs cells slots Q g) : W p l e R s m args below meth c H locs cells slots Q2 g := fun T hT X => by
  obtain ⟨t, a, b⟩ := k T hT X
  exact ⟨t, a, h t b⟩
/-- THE PURE STATEMENT gives the claim: what the law's program says in the walk's memory -/
def lawPure : Prop := ∀ (L : Nat) (xs : Nat → Int32), L ≤ 3072 → ∃ u, m_L L xs hS0 = some (1, u)
theorem whole_of (hP : lawPure) {p : Program} {e : Env} {s : State} {m : MethodId} {below : List Frame} {meth : Method} {c : Code} (l : Launch) {b L : Nat} {xs : Nat → Int32} (hL : L ≤ 3072) (C0 : lw_At p s m meth c b L xs) : W p l e room_1 s m #[Value.ref b] below meth c s.heap [] 0 0 (lw_Z below #[Value.ref b] s) (entryFrame m ([Value.ref b] : List Value).toArray 4) := by
  obtain ⟨hx, hb, hr, hml, hown, hts, hX, hbl, hlocks, hgv⟩ := id C0
  obtain ⟨G, g1, g2, g3⟩ := lw_hT hts hgv hbl
  obtain ⟨u, hu⟩ := hP L xs hL
  have hl := lv_entry ([.ref b]) (n := 4) (Nat.le_of_ble_eq_true rfl)
  rw [lg_entry_eq]
  generalize (lg_sl ([.ref b]) ++ List.replicate (4 - (lg_sl ([.ref b])).length) Slot.unset).toArray = ls at hl ⊢
  have hl : lv_has ls 4 [(0, .ref b)] := hl
  have hOK1 : hOK (G, p, l, e, room_1, s, m, #[Value.ref b], below, meth, c) cL_law RL 4 (some .boolean) := ⟨hx, hb, hml, hown, fun w h => hts w (List.mem_filter.mp h).1, g3, hr, hlocks⟩
  have h0 : hR G hS0 s.heap := ⟨g1.symm, by decide, fun q hq => by rw [g2], fun a h1 h2 => by
    have h2 : a < 1 := h2
    omega⟩
  have k := z_L (C := (G, p, l, e, room_1, s, m, #[Value.ref b], below, meth, c)) (b := b) (L := L) (xs := xs) rfl hOK1 (by show va_X b L xs s G.2.1; rw [g2]; exact hX) (by show b ≤ G.1; omega) hL hS0 1 u s.heap [] ls hu h0 (fun q hq => absurd hq List.not_mem_nil) hl
  refine W_mono ?_ k
  intro t ht
  obtain ⟨o, r1, r2, ⟨q1, q2, q3⟩, Lo, ⟨f1, f2, f3⟩, f4⟩ := ht
  refine ⟨o, r1, r2, q1, f1, f2, f3.weaken (fun y hy hlt => ?_) (Nat.le_refl _) (Nat.le_refl _)⟩
  have hge : G.1 + 1 ≤ y.base := f4 y hy
  exact absurd (Nat.lt_of_lt_of_le hlt (Nat.le_of_eq g1.symm)) (Nat.not_lt.mpr hge)
