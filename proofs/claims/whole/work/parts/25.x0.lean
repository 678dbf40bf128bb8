def m_X0_init (l0 : Nat) (l1 : Nat) : hM :=
  hpZ 0 l0 1 0 <|
  hpI 0 l0 2 0 <|
  hnew 4 fun v1 =>
  hassert (0 < v1) <|
  hcall (m_X4_init v1 l1) fun _ =>
  hpR 0 l0 0 v1 <|
  hret 0
set_option maxRecDepth 4000 in
set_option maxHeartbeats 20000000 in
theorem z_X0_init (d : Nat) (hd : 2 ≤ d) {C : hCx} (K : hCtx C.1 C.2.2.1 d 5 86 "<init>" C) (X : hOK C cX0_init RX0 2 none) (l0 : Nat) (l1 : Nat) (p0 : 0 < l0) : hSim C none 5 86 2 0 [(0, vR C.1.1 l0), (1, vR C.1.1 l1)] [] 0 0 (m_X0_init l0 l1) := by
  obtain ⟨⟨hf, hlo⟩, ⟨hc1, hc2⟩, hf1, hl1⟩ := K_room K (by omega)
  have hcs : 0 ≤ C.2.2.2.2.1.cells ∧ 0 ≤ C.2.2.2.2.1.slots := ⟨Nat.zero_le _, Nat.zero_le _⟩
  unfold m_X0_init
  refine s_aload_n (j := 0) (pc2 := 1) X dX0_init_0 rfl rfl ?_
  refine s_objI (pc2 := 4) X dX0_init_1 rfl ml_RX0_1 im_objectInit co_objectInit p0 hf1 hl1 (st_room (Nat.le_of_ble_eq_true rfl)) ?_
  refine s_aload_n (j := 0) (pc2 := 5) X dX0_init_4 rfl rfl ?_
  refine s_iconst (n := 0) (pc2 := 6) X dX0_init_5 rfl ?_
  refine s_putZ (pc2 := 9) X dX0_init_6 rfl fl_RX0_7 (Or.inl rfl) rfl ?_
  refine s_aload_n (j := 0) (pc2 := 10) X dX0_init_9 rfl rfl ?_
  refine s_lconst (z := 0) (pc2 := 11) X dX0_init_10 rfl rfl ?_
  refine s_putL (pc2 := 14) X dX0_init_11 rfl fl_RX0_13 (Or.inl rfl) rfl (inL_c 0 rfl) ?_
  refine s_aload_n (j := 0) (pc2 := 15) X dX0_init_14 rfl rfl ?_
  refine s_new (pc2 := 18) X dX0_init_15 rfl kX4 cl_RX0_17 kdX4 (by rw [hc1]; exact Nat.le_of_ble_eq_true rfl) (by rw [hc2]; exact Nat.le_of_ble_eq_true rfl) (fun v1 => ?_)
  refine s_assert (fun pv1 => ?_)
  refine s_cs 1 6 rfl rfl ?_
  refine s_dup (pc2 := 19) X dX0_init_18 rfl (vR_cat _ _) ?_
  refine s_aload_n (j := 1) (pc2 := 20) X dX0_init_19 rfl rfl ?_
  refine s_callI (d2 := d - 1) (mc2 := 4) (ms2 := 80) (As := [vR C.1.1 l1]) (st := [vR C.1.1 v1, vR C.1.1 l0]) (pc2 := 23) X dX0_init_20 rfl ml_RX0_19 im_X4_init rfl (c_X4_init (d - 1) (by omega) C.1 C.2.2.1 v1 l1 pv1) hy_X4_init rfl rfl pv1 hf hlo (st_room (Nat.le_of_ble_eq_true rfl)) ⟨by rw [hc1]; exact Nat.le_of_ble_eq_true rfl, by rw [hc2]; exact Nat.le_of_ble_eq_true rfl⟩ (fun _ => ?_)
  refine s_cs 5 86 rfl rfl ?_
  refine s_putR (pc2 := 26) X dX0_init_23 rfl fl_RX0_22 (Or.inr ⟨K.2.2.2, _, rfl, rfl⟩) rfl ?_
  exact s_ret X dX0_init_26
theorem c_X0_init (d : Nat) (hd : 2 ≤ d) (G : hG) (l : Launch) (l0 : Nat) (l1 : Nat) (p0 : 0 < l0) : hMet G l yX0_init cX0_init 2 none d 5 86 [vR G.1 l0, vR G.1 l1] (m_X0_init l0 l1) := by
  refine hMet.of (lv := [(0, vR G.1 l0), (1, vR G.1 l1)]) (by decide +kernel) (by simp [lg_sl, vR_cat, vI_cat, vL_cat, vS_cat2, vT_cat2]) (by simp [lv_args, vR_cat, vI_cat, vL_cat, vS_cat2, vT_cat2]) (fun C K X => ?_)
  obtain ⟨rfl, rfl, K⟩ := K
  exact z_X0_init d hd ⟨rfl, rfl, K⟩ X l0 l1 p0
