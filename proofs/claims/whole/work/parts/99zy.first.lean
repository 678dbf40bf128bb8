/-! what stands after construction -/
def zC : List (Nat × Nat) := [(12, 0), (12, 1), (13, 3), (17, 3), (12, 7), (12, 10), (12, 4), (30, 1), (230, 0), (230, 1), (230, 2), (230, 3), (230, 4), (230, 5), (230, 6), (230, 7), (1, 6), (1, 7), (220, 25), (196, 1), (202, 1), (208, 1), (214, 1), (242, 0), (242, 1), (242, 2), (242, 3), (2, 1), (220, 1), (1, 2), (220, 2), (231, 0), (231, 1), (231, 2), (231, 3), (231, 4), (231, 5), (231, 6), (231, 7), (231, 8)]
def fC : List (Nat × Nat × Nat) := [(12, 2, 13), (12, 3, 17), (12, 5, 21), (12, 6, 22), (12, 8, 23), (12, 9, 24), (12, 11, 25), (12, 12, 26), (12, 13, 27), (12, 14, 28), (12, 15, 29), (13, 0, 14), (13, 1, 15), (13, 2, 16), (17, 0, 18), (17, 1, 19), (17, 2, 20)]
def chk (u : hS) : Bool := Nat.ble 243 (hB u) && (List.range 243).all (fun a => Nat.beq (hK u a) (kL.getD a 0) && Nat.beq (hN u a) (nLs.getD a 0)) && refL.all (fun q => Nat.beq (hF u q.1 q.2.1) q.2.2) && zC.all (fun q => decide (hV u q.1 q.2 = 0)) && Nat.beq (hF u 30 0) 12 && fC.all (fun q => Nat.beq (hF u q.1 q.2.1) q.2.2) && decide (hV u 1 9 = hV u 220 21) && decide (0 ≤ hV u 220 21) && decide (hV u 220 21 < 2147483648)
def ok2 (y : Option (Int × hS)) : Bool := match y with
  | some (_, u) => chk u
  | none => false
def ok1 (y : Option (Int × hS)) : Bool := match y with
  | some (_, u) => Nat.beq (hB u) 220 && ok2 (m_X10_init 220 (hmake u 10 0))
  | none => false
theorem ok_init : ok1 (m_X9_init 1 (hmake hS0 9 0)) = true := by decide +kernel
theorem tw_12 {u : hS} (hs : shp u) (fi : ∀ (i : Nat) (q : Nat × Nat × Nat), fC[i]? = some q → hF u q.1 q.2.1 = q.2.2) : TwA u 12 := ⟨hs.ok 12 7 (by decide) (by decide) rfl, hs.ok 13 1 (by decide) (by decide) rfl, hs.ok 14 20 (by decide) (by decide) rfl, hs.ok 15 20 (by decide) (by decide) rfl, hs.ok 16 20 (by decide) (by decide) rfl, hs.ok 17 1 (by decide) (by decide) rfl, hs.ok 18 20 (by decide) (by decide) rfl, hs.ok 19 20 (by decide) (by decide) rfl, hs.ok 20 20 (by decide) (by decide) rfl, hs.ok 21 20 (by decide) (by decide) rfl, hs.ok 22 20 (by decide) (by decide) rfl, hs.ok 23 20 (by decide) (by decide) rfl, hs.ok 24 20 (by decide) (by decide) rfl, hs.ok 25 20 (by decide) (by decide) rfl, hs.ok 26 20 (by decide) (by decide) rfl, hs.ok 27 20 (by decide) (by decide) rfl, hs.ok 28 20 (by decide) (by decide) rfl, hs.ok 29 20 (by decide) (by decide) rfl, hs.len 14 9 (by decide) rfl, hs.len 15 9 (by decide) rfl, hs.len 16 9 (by decide) rfl, hs.len 18 4 (by decide) rfl, hs.len 19 4 (by decide) rfl, hs.len 20 4 (by decide) rfl, hs.len 21 4 (by decide) rfl, hs.len 22 4 (by decide) rfl, hs.len 23 4 (by decide) rfl, hs.len 24 36 (by decide) rfl, hs.len 25 8 (by decide) rfl, hs.len 26 8 (by decide) rfl, hs.len 27 8 (by decide) rfl, hs.len 28 8 (by decide) rfl, hs.len 29 64 (by decide) rfl, fi 0 (12, 2, 13) rfl, fi 1 (12, 3, 17) rfl, fi 2 (12, 5, 21) rfl, fi 3 (12, 6, 22) rfl, fi 4 (12, 8, 23) rfl, fi 5 (12, 9, 24) rfl, fi 6 (12, 11, 25) rfl, fi 7 (12, 12, 26) rfl, fi 8 (12, 13, 27) rfl, fi 9 (12, 14, 28) rfl, fi 10 (12, 15, 29) rfl, fi 11 (13, 0, 14) rfl, fi 12 (13, 1, 15) rfl, fi 13 (13, 2, 16) rfl, fi 14 (17, 0, 18) rfl, fi 15 (17, 1, 19) rfl, fi 16 (17, 2, 20) rfl⟩
theorem chk_inv {u : hS} (h : chk u = true) : Inv u := by
  unfold chk at h
  simp only [Bool.and_eq_true] at h
  obtain ⟨⟨⟨⟨⟨⟨⟨⟨h1, h2⟩, h3⟩, h4⟩, h5⟩, h9⟩, h6⟩, h7⟩, h8⟩ := h
  have hs : shp u := by
    refine ⟨Nat.le_of_ble_eq_true h1, fun a ha => ?_, fun q hq => ?_⟩
    · have := List.all_eq_true.mp h2 a (List.mem_range.mpr ha)
      rw [Bool.and_eq_true] at this
      exact ⟨Nat.eq_of_beq_eq_true this.1, Nat.eq_of_beq_eq_true this.2⟩
    · exact Nat.eq_of_beq_eq_true (List.all_eq_true.mp h3 q hq)
  have z : ∀ q ∈ zC, hV u q.1 q.2 = 0 := fun q hq => of_decide_eq_true (List.all_eq_true.mp h4 q hq)
  have zi : ∀ (i : Nat) (q : Nat × Nat), zC[i]? = some q → hV u q.1 q.2 = 0 := fun i q e => z q (List.mem_of_getElem? e)
  have e6 := of_decide_eq_true h6
  have e7 := of_decide_eq_true h7
  have e8 := of_decide_eq_true h8
  have f0 : hF u 30 0 = 12 := Nat.eq_of_beq_eq_true h5
  have s0 : hV u 230 0 = 0 := zi 8 (230, 0) rfl
  have s1 : hV u 230 1 = 0 := zi 9 (230, 1) rfl
  have s2 : hV u 230 2 = 0 := zi 10 (230, 2) rfl
  have s3 : hV u 230 3 = 0 := zi 11 (230, 3) rfl
  have s4 : hV u 230 4 = 0 := zi 12 (230, 4) rfl
  have s5 : hV u 230 5 = 0 := zi 13 (230, 5) rfl
  have s6 : hV u 230 6 = 0 := zi 14 (230, 6) rfl
  have s7 : hV u 230 7 = 0 := zi 15 (230, 7) rfl
  have c0 : hV u 12 0 = 0 := zi 0 (12, 0) rfl
  have c1 : hV u 12 1 = 0 := zi 1 (12, 1) rfl
  have c2 : hV u 13 3 = 0 := zi 2 (13, 3) rfl
  have c3 : hV u 17 3 = 0 := zi 3 (17, 3) rfl
  have c4 : hV u 12 7 = 0 := zi 4 (12, 7) rfl
  have c5 : hV u 12 10 = 0 := zi 5 (12, 10) rfl
  have c7 : hV u 12 4 = 0 := zi 6 (12, 4) rfl
  have c6 : hV u 30 1 = 0 := zi 7 (30, 1) rfl
  have t0 : twn (hV u 230) 0 = 0 := s0
  have t2 : twn (hV u 230) 2 = 0 := s2
  refine ⟨hs, ⟨12, 0, ⟨⟨stp_30.1 u hs, tw_12 hs (fun i q e => Nat.eq_of_beq_eq_true (List.all_eq_true.mp h9 q (List.mem_of_getElem? e))), f0, c0.trans s0.symm, c1.trans s1.symm, c2.trans s2.symm, c3.trans s3.symm, c4.trans s4.symm, c5.trans s5.symm, c6.trans s6.symm, c7.trans s7.symm, ?_, ?_, ?_, ?_, ?_, ?_, ?_, ?_, ?_, ?_, ?_, ?_, ?_, ?_, ?_⟩, .inl rfl, ⟨?_, ?_, ?_, ?_⟩, ?_, ?_⟩, ⟨0, by decide, zi 16 (1, 6) rfl, by decide, zi 17 (1, 7) rfl, fun j hj => by omega⟩, zi 18 (220, 25) rfl⟩, ?_, ?_, ?_, ?_⟩
  · intro p hp
    omega
  · intro p hp
    omega
  · intro p hp
    omega
  · intro p b hp
    omega
  · intro p b hp
    omega
  · intro b hb
    omega
  · intro b hb
    omega
  · intro b hb
    omega
  · intro b hb
    omega
  · intro b hb
    omega
  · intro b hb
    omega
  · intro b hb
    omega
  · intro b hb
    omega
  · intro b hb
    omega
  · intro b hb
    omega
  · intro b hb
    rw [t2] at hb
    omega
  · intro q r hq
    rw [t0] at hq
    omega
  · intro hb
    rw [t2] at hb
    omega
  · intro b hb
    rw [t2] at hb
    omega
  · unfold WS
    rw [s0, s1, s2, s3, s4, s5, s6, s7]
    decide
  · refine ⟨fun b hb => by omega, fun b hb => by omega, fun p hp => by omega, fun p b hp => by omega, fun w hw => by omega⟩
  · intro k hk
    have i1 : hV u 196 1 = 0 := zi 19 (196, 1) rfl
    have i2 : hV u 202 1 = 0 := zi 20 (202, 1) rfl
    have i3 : hV u 208 1 = 0 := zi 21 (208, 1) rfl
    have i4 : hV u 214 1 = 0 := zi 22 (214, 1) rfl
    have j1 : hV u 242 0 = 0 := zi 23 (242, 0) rfl
    have j2 : hV u 242 1 = 0 := zi 24 (242, 1) rfl
    have j3 : hV u 242 2 = 0 := zi 25 (242, 2) rfl
    have j4 : hV u 242 3 = 0 := zi 26 (242, 3) rfl
    have hk' : k = 0 ∨ k = 1 ∨ k = 2 ∨ k = 3 := by omega
    rcases hk' with rfl | rfl | rfl | rfl
    · exact ⟨i1.trans j1.symm, .inl j1, fun y => by rw [j1] at y; exact absurd y (by decide)⟩
    · exact ⟨i2.trans j2.symm, .inl j2, fun y => by rw [j2] at y; exact absurd y (by decide)⟩
    · exact ⟨i3.trans j3.symm, .inl j3, fun y => by rw [j3] at y; exact absurd y (by decide)⟩
    · exact ⟨i4.trans j4.symm, .inl j4, fun y => by rw [j4] at y; exact absurd y (by decide)⟩
  · exact ⟨0, by decide, zi 27 (2, 1) rfl, zi 28 (220, 1) rfl, fun i hi => by omega⟩
  · exact ⟨0, by decide, zi 29 (1, 2) rfl, zi 30 (220, 2) rfl, fun r hr => by omega⟩
  · refine ⟨e6, ⟨e7, e8⟩, fun b hb => ?_⟩
    have hb' : b = 0 ∨ b = 1 ∨ b = 2 ∨ b = 3 ∨ b = 4 ∨ b = 5 ∨ b = 6 ∨ b = 7 ∨ b = 8 := by omega
    rcases hb' with rfl | rfl | rfl | rfl | rfl | rfl | rfl | rfl | rfl
    · exact zi 31 (231, 0) rfl
    · exact zi 32 (231, 1) rfl
    · exact zi 33 (231, 2) rfl
    · exact zi 34 (231, 3) rfl
    · exact zi 35 (231, 4) rfl
    · exact zi 36 (231, 5) rfl
    · exact zi 37 (231, 6) rfl
    · exact zi 38 (231, 7) rfl
    · exact zi 39 (231, 8) rfl
theorem ok2_x {y : Option (Int × hS)} (h : ok2 y = true) : ∃ v2 u2, y = some (v2, u2) ∧ Inv u2 := by
  cases y with
  | none => exact absurd h (by decide)
  | some y =>
    obtain ⟨v2, u2⟩ := y
    exact ⟨v2, u2, rfl, chk_inv h⟩
theorem ok1_x {y : Option (Int × hS)} (h : ok1 y = true) : ∃ v1 v2 u, y = some (v1, u) ∧ hB u = 220 ∧ ∃ u2, m_X10_init 220 (hmake u 10 0) = some (v2, u2) ∧ Inv u2 := by
  cases y with
  | none => exact absurd h (by decide)
  | some y =>
    obtain ⟨v1, u⟩ := y
    have h' : (Nat.beq (hB u) 220 && ok2 (m_X10_init 220 (hmake u 10 0))) = true := h
    rw [Bool.and_eq_true] at h'
    obtain ⟨v2, u2, e, iv⟩ := ok2_x h'.2
    exact ⟨v1, v2, u, rfl, Nat.eq_of_beq_eq_true h'.1, u2, e, iv⟩
theorem law_pure : lawPure := law_open (Iv := Inv) (fun _ iv => iv.1) (fun _ iv a b c d e _ _ _ _ _ => b_feed iv a b c d e) (fun _ iv a _ => b_end iv a) (fun _ iv => a_town iv) (fun _ iv => a_rule iv) (fun _ iv a b _ _ => b_person iv a b) (fun _ iv a b _ _ => agree_rd iv (a_left iv.1 iv.2.1 iv.e a b)) (fun _ iv a b _ _ => agree_rd iv (a_bridge iv.1 iv.2.1 a b)) (fun _ iv a b _ _ => agree_act iv (a_cross iv.1 iv.2.1 iv.e a b)) (fun _ iv a b _ _ => agree_act iv (a_sail iv.1 iv.2.1 a b)) (fun _ iv a b c _ _ _ => agree_act iv (a_carry iv.1 iv.2.1 iv.e a b c)) (fun _ iv a _ => agree_act iv (a_rebuild iv.1 iv.2.1 a)) (fun _ iv => agree_act iv (a_day iv.1 iv.2.1)) (fun _ iv => agree_act iv (a_undo iv.1 iv.2.1)) (fun _ iv a b _ _ => b_run iv a b) (fun _ iv a b c _ _ _ => b_way iv a b c) (fun _ iv a b c _ _ _ => b_life iv a b c) (fun _ iv a b c _ _ _ => b_worth iv a b c) (fun _ iv a b _ _ => b_more iv a b) (fun _ iv a b c _ _ _ => b_meet iv a b c) (fun _ iv a _ => b_best iv a) (fun _ iv => b_alone iv) (fun _ iv a b c _ _ _ => b_letter iv a b c) (fun _ iv a b _ _ => b_came iv a b) (fun _ iv a b _ _ => b_trail iv a b) (fun _ iv a h => a_seed iv a h) (fun _ iv a b c _ _ _ => b_lives iv a b c) (fun _ iv a _ => b_count iv a) (fun _ iv a _ => b_image iv a) (fun _ iv a _ => b_back iv a) (ok1_x ok_init)
theorem whole_start {p : Program} {e : Env} {s : State} {m : MethodId} {below : List Frame} {meth : Method} {c : Code} (l : Launch) {b L : Nat} {xs : Nat → Int32} (hL : L ≤ 3072) (C0 : lw_At p s m meth c b L xs) : W p l e room_1 s m #[Value.ref b] below meth c s.heap [] 0 0 (lw_Z below #[Value.ref b] s) (entryFrame m ([Value.ref b] : List Value).toArray 4) := whole_of law_pure l hL C0
