def m_X7_nearer_L39 (s0 : Int) : hM :=
  hret s0
def m_X7_nearer (l0 : Nat) (l1 : Int) (l2 : Int) (l3 : Int) : hM :=
  hgR 7 l0 15 fun v1 =>
  haI 20 v1 ((w32 (((w32 (l1 * 8))) + l3))) fun v2 =>
  hlet v2 fun (w3 : Int) =>
  hif (w3 ≠ 99) (
hgR 7 l0 15 fun v4 =>
  haI 20 v4 ((w32 (((w32 (l2 * 8))) + l3))) fun v5 =>
  m_X7_nearer_L39 ((w32 (w3 - v5)))) (
m_X7_nearer_L39 99)
set_option maxRecDepth 4000 in
theorem z_X7_nearer_L39 (d : Nat) (hd : 1 ≤ d) {C : hCx} (K : hCtx C.1 C.2.2.1 d 0 0 "nearer" C) (X : hOK C cX7_nearer RX7 5 (some .int)) (s0 : Int) (g0 : inI s0) : hSim C (some .int) 0 0 5 39 [] [vI s0] 0 0 (m_X7_nearer_L39 s0) := by
  obtain ⟨⟨hf, hlo⟩, ⟨hc1, hc2⟩, hf1, hl1⟩ := K_room K (by omega)
  have hcs : 0 ≤ C.2.2.2.2.1.cells ∧ 0 ≤ C.2.2.2.2.1.slots := ⟨Nat.zero_le _, Nat.zero_le _⟩
  unfold m_X7_nearer_L39
  exact s_iret X dX7_nearer_39 g0
set_option maxRecDepth 4000 in
set_option maxHeartbeats 20000000 in
theorem z_X7_nearer (d : Nat) (hd : 1 ≤ d) {C : hCx} (K : hCtx C.1 C.2.2.1 d 0 0 "nearer" C) (X : hOK C cX7_nearer RX7 5 (some .int)) (l0 : Nat) (l1 : Int) (l2 : Int) (l3 : Int) (h1 : inI l1) (h2 : inI l2) (h3 : inI l3) : hSim C (some .int) 0 0 5 0 [(0, vR C.1.1 l0), (1, vI l1), (2, vI l2), (3, vI l3)] [] 0 0 (m_X7_nearer l0 l1 l2 l3) := by
  obtain ⟨⟨hf, hlo⟩, ⟨hc1, hc2⟩, hf1, hl1⟩ := K_room K (by omega)
  have hcs : 0 ≤ C.2.2.2.2.1.cells ∧ 0 ≤ C.2.2.2.2.1.slots := ⟨Nat.zero_le _, Nat.zero_le _⟩
  unfold m_X7_nearer
  refine s_aload_n (j := 0) (pc2 := 1) X dX7_nearer_0 rfl rfl ?_
  refine s_getR (pc2 := 4) X dX7_nearer_1 rfl fl_RX7_64 rfl (fun v1 => ?_)
  refine s_iload_n (j := 1) (pc2 := 5) X dX7_nearer_4 rfl rfl ?_
  refine s_bipush (n := 8) (pc2 := 7) X dX7_nearer_5 rfl rfl ?_
  refine s_imul (pc2 := 8) X dX7_nearer_7 rfl ?_
  refine s_iload_n (j := 3) (pc2 := 9) X dX7_nearer_8 rfl rfl ?_
  refine s_iadd (pc2 := 10) X dX7_nearer_9 rfl ?_
  refine s_iald (pc2 := 11) X dX7_nearer_10 rfl (fun v2 hv2 => ?_)
  refine s_istore (pc2 := 13) X dX7_nearer_11 rfl (by decide) rfl rfl cat1_I hv2 (fun w3 hw3 => ?_)
  refine s_iload (j := 0) (pc2 := 15) X dX7_nearer_13 rfl rfl ?_
  refine s_bipush (n := 99) (pc2 := 17) X dX7_nearer_15 rfl rfl ?_
  refine s_icne (tgt := 25) X dX7_nearer_17 (by decide) rfl hw3 (inI_c 99 rfl) ?_ ?_
  · refine s_iload (j := 0) (pc2 := 27) X dX7_nearer_25 rfl rfl ?_
    refine s_aload_n (j := 1) (pc2 := 28) X dX7_nearer_27 rfl rfl ?_
    refine s_getR (pc2 := 31) X dX7_nearer_28 rfl fl_RX7_64 rfl (fun v4 => ?_)
    refine s_iload_n (j := 3) (pc2 := 32) X dX7_nearer_31 rfl rfl ?_
    refine s_bipush (n := 8) (pc2 := 34) X dX7_nearer_32 rfl rfl ?_
    refine s_imul (pc2 := 35) X dX7_nearer_34 rfl ?_
    refine s_iload_n (j := 4) (pc2 := 36) X dX7_nearer_35 rfl rfl ?_
    refine s_iadd (pc2 := 37) X dX7_nearer_36 rfl ?_
    refine s_iald (pc2 := 38) X dX7_nearer_37 rfl (fun v5 hv5 => ?_)
    refine s_isub (pc2 := 39) X dX7_nearer_38 rfl ?_
    refine s_sub (lv2 := []) [] rfl ?_
    exact z_X7_nearer_L39 d hd K X ((w32 (w3 - v5))) (w32_in _)
  · refine s_bipush (n := 99) (pc2 := 22) X dX7_nearer_20 rfl rfl ?_
    refine s_goto (pc2 := 39) X dX7_nearer_22 (by decide) ?_
    refine s_sub (lv2 := []) [] rfl ?_
    exact z_X7_nearer_L39 d hd K X 99 (inI_c 99 rfl)
theorem c_X7_nearer (d : Nat) (hd : 1 ≤ d) (G : hG) (l : Launch) (l0 : Nat) (l1 : Int) (l2 : Int) (l3 : Int) (h1 : inI l1) (h2 : inI l2) (h3 : inI l3) : hMet G l yX7_nearer cX7_nearer 5 (some .int) d 0 0 [vR G.1 l0, vI l1, vI l2, vI l3] (m_X7_nearer l0 l1 l2 l3) := by
  refine hMet.of (lv := [(0, vR G.1 l0), (1, vI l1), (2, vI l2), (3, vI l3)]) (by decide +kernel) (by simp [lg_sl, vR_cat, vI_cat, vL_cat, vS_cat2, vT_cat2]) (by simp [lv_args, vR_cat, vI_cat, vL_cat, vS_cat2, vT_cat2]) (fun C K X => ?_)
  obtain ⟨rfl, rfl, K⟩ := K
  exact z_X7_nearer d hd ⟨rfl, rfl, K⟩ X l0 l1 l2 l3 h1 h2 h3
def m_X4_init (l0 : Nat) (l1 : Nat) : hM :=
  hpI 4 l0 1 0 <|
  hnewA 20 4 fun v1 =>
  hpR 4 l0 2 v1 <|
  hnewA 20 4 fun v2 =>
  hpR 4 l0 3 v2 <|
  hnewA 20 36 fun v3 =>
  hpR 4 l0 4 v3 <|
  hnewA 20 36 fun v4 =>
  hpR 4 l0 5 v4 <|
  hpR 4 l0 0 l1 <|
  hret 0
set_option maxRecDepth 4000 in
set_option maxHeartbeats 20000000 in
theorem z_X4_init (d : Nat) (hd : 1 ≤ d) {C : hCx} (K : hCtx C.1 C.2.2.1 d 4 80 "<init>" C) (X : hOK C cX4_init RX4 2 none) (l0 : Nat) (l1 : Nat) (p0 : 0 < l0) : hSim C none 4 80 2 0 [(0, vR C.1.1 l0), (1, vR C.1.1 l1)] [] 0 0 (m_X4_init l0 l1) := by
  obtain ⟨⟨hf, hlo⟩, ⟨hc1, hc2⟩, hf1, hl1⟩ := K_room K (by omega)
  have hcs : 0 ≤ C.2.2.2.2.1.cells ∧ 0 ≤ C.2.2.2.2.1.slots := ⟨Nat.zero_le _, Nat.zero_le _⟩
  unfold m_X4_init
  refine s_aload_n (j := 0) (pc2 := 1) X dX4_init_0 rfl rfl ?_
  refine s_objI (pc2 := 4) X dX4_init_1 rfl ml_RX4_3 im_objectInit co_objectInit p0 hf1 hl1 (st_room (Nat.le_of_ble_eq_true rfl)) ?_
  refine s_aload_n (j := 0) (pc2 := 5) X dX4_init_4 rfl rfl ?_
  refine s_iconst (n := 0) (pc2 := 6) X dX4_init_5 rfl ?_
  refine s_putI (pc2 := 9) X dX4_init_6 rfl fl_RX4_9 (Or.inl rfl) rfl (inI_c 0 rfl) ?_
  refine s_aload_n (j := 0) (pc2 := 10) X dX4_init_9 rfl rfl ?_
  refine s_iconst (n := 4) (pc2 := 11) X dX4_init_10 rfl ?_
  refine s_newa20 (N := 4) (pc2 := 13) X dX4_init_11 rfl rfl (by decide) ac_int (by rw [hc1]; exact Nat.le_of_ble_eq_true rfl) (by rw [hc2]; exact Nat.le_of_ble_eq_true rfl) (fun v1 => ?_)
  refine s_cs 1 4 rfl rfl ?_
  refine s_putR (pc2 := 16) X dX4_init_13 rfl fl_RX4_15 (Or.inr ⟨K.2.2.2, _, rfl, rfl⟩) rfl ?_
  refine s_aload_n (j := 0) (pc2 := 17) X dX4_init_16 rfl rfl ?_
  refine s_iconst (n := 4) (pc2 := 18) X dX4_init_17 rfl ?_
  refine s_newa20 (N := 4) (pc2 := 20) X dX4_init_18 rfl rfl (by decide) ac_int (by rw [hc1]; exact Nat.le_of_ble_eq_true rfl) (by rw [hc2]; exact Nat.le_of_ble_eq_true rfl) (fun v2 => ?_)
  refine s_cs 2 8 rfl rfl ?_
  refine s_putR (pc2 := 23) X dX4_init_20 rfl fl_RX4_19 (Or.inr ⟨K.2.2.2, _, rfl, rfl⟩) rfl ?_
  refine s_aload_n (j := 0) (pc2 := 24) X dX4_init_23 rfl rfl ?_
  refine s_bipush (n := 36) (pc2 := 26) X dX4_init_24 rfl rfl ?_
  refine s_newa20 (N := 36) (pc2 := 28) X dX4_init_26 rfl rfl (by decide) ac_int (by rw [hc1]; exact Nat.le_of_ble_eq_true rfl) (by rw [hc2]; exact Nat.le_of_ble_eq_true rfl) (fun v3 => ?_)
  refine s_cs 3 44 rfl rfl ?_
  refine s_putR (pc2 := 31) X dX4_init_28 rfl fl_RX4_22 (Or.inr ⟨K.2.2.2, _, rfl, rfl⟩) rfl ?_
  refine s_aload_n (j := 0) (pc2 := 32) X dX4_init_31 rfl rfl ?_
  refine s_bipush (n := 36) (pc2 := 34) X dX4_init_32 rfl rfl ?_
  refine s_newa20 (N := 36) (pc2 := 36) X dX4_init_34 rfl rfl (by decide) ac_int (by rw [hc1]; exact Nat.le_of_ble_eq_true rfl) (by rw [hc2]; exact Nat.le_of_ble_eq_true rfl) (fun v4 => ?_)
  refine s_cs 4 80 rfl rfl ?_
  refine s_putR (pc2 := 39) X dX4_init_36 rfl fl_RX4_25 (Or.inr ⟨K.2.2.2, _, rfl, rfl⟩) rfl ?_
  refine s_aload_n (j := 0) (pc2 := 40) X dX4_init_39 rfl rfl ?_
  refine s_aload_n (j := 1) (pc2 := 41) X dX4_init_40 rfl rfl ?_
  refine s_putR (pc2 := 44) X dX4_init_41 rfl fl_RX4_28 (Or.inl rfl) rfl ?_
  exact s_ret X dX4_init_44
theorem c_X4_init (d : Nat) (hd : 1 ≤ d) (G : hG) (l : Launch) (l0 : Nat) (l1 : Nat) (p0 : 0 < l0) : hMet G l yX4_init cX4_init 2 none d 4 80 [vR G.1 l0, vR G.1 l1] (m_X4_init l0 l1) := by
  refine hMet.of (lv := [(0, vR G.1 l0), (1, vR G.1 l1)]) (by decide +kernel) (by simp [lg_sl, vR_cat, vI_cat, vL_cat, vS_cat2, vT_cat2]) (by simp [lv_args, vR_cat, vI_cat, vL_cat, vS_cat2, vT_cat2]) (fun C K X => ?_)
  obtain ⟨rfl, rfl, K⟩ := K
  exact z_X4_init d hd ⟨rfl, rfl, K⟩ X l0 l1 p0
def m_X4_startIn (l0 : Nat) (l1 : Nat) : hM :=
  hpR 4 l0 0 l1 <|
  hpI 4 l0 1 0 <|
  hgR 7 l1 8 fun v1 =>
  hgR 4 l0 2 fun v2 =>
  hgR 4 l0 2 fun v3 =>
  hlen 20 v3 fun v4 =>
  hcpy v1 0 v2 0 v4 <|
  hgR 7 l1 9 fun v5 =>
  hgR 4 l0 4 fun v6 =>
  hgR 4 l0 4 fun v7 =>
  hlen 20 v7 fun v8 =>
  hcpy v5 0 v6 0 v8 <|
  hgR 4 l0 3 fun v9 =>
  hcall (m_J7_fill_53178 v9 0) fun _ =>
  hgR 4 l0 5 fun v10 =>
  hcall (m_J7_fill_53178 v10 0) fun _ =>
  hret 0
set_option maxRecDepth 4000 in
set_option maxHeartbeats 20000000 in
theorem z_X4_startIn (d : Nat) (hd : 2 ≤ d) {C : hCx} (K : hCtx C.1 C.2.2.1 d 0 0 "startIn" C) (X : hOK C cX4_startIn RX4 2 none) (l0 : Nat) (l1 : Nat) : hSim C none 0 0 2 0 [(0, vR C.1.1 l0), (1, vR C.1.1 l1)] [] 0 0 (m_X4_startIn l0 l1) := by
  obtain ⟨⟨hf, hlo⟩, ⟨hc1, hc2⟩, hf1, hl1⟩ := K_room K (by omega)
  have hcs : 0 ≤ C.2.2.2.2.1.cells ∧ 0 ≤ C.2.2.2.2.1.slots := ⟨Nat.zero_le _, Nat.zero_le _⟩
  unfold m_X4_startIn
  refine s_aload_n (j := 0) (pc2 := 1) X dX4_startIn_0 rfl rfl ?_
  refine s_aload_n (j := 1) (pc2 := 2) X dX4_startIn_1 rfl rfl ?_
  refine s_putR (pc2 := 5) X dX4_startIn_2 rfl fl_RX4_28 (Or.inl rfl) rfl ?_
  refine s_aload_n (j := 0) (pc2 := 6) X dX4_startIn_5 rfl rfl ?_
  refine s_iconst (n := 0) (pc2 := 7) X dX4_startIn_6 rfl ?_
  refine s_putI (pc2 := 10) X dX4_startIn_7 rfl fl_RX4_9 (Or.inl rfl) rfl (inI_c 0 rfl) ?_
  refine s_aload_n (j := 1) (pc2 := 11) X dX4_startIn_10 rfl rfl ?_
  refine s_getR (pc2 := 14) X dX4_startIn_11 rfl fl_RX4_32 rfl (fun v1 => ?_)
  refine s_iconst (n := 0) (pc2 := 15) X dX4_startIn_14 rfl ?_
  refine s_aload_n (j := 0) (pc2 := 16) X dX4_startIn_15 rfl rfl ?_
  refine s_getR (pc2 := 19) X dX4_startIn_16 rfl fl_RX4_15 rfl (fun v2 => ?_)
  refine s_iconst (n := 0) (pc2 := 20) X dX4_startIn_19 rfl ?_
  refine s_aload_n (j := 0) (pc2 := 21) X dX4_startIn_20 rfl rfl ?_
  refine s_getR (pc2 := 24) X dX4_startIn_21 rfl fl_RX4_15 rfl (fun v3 => ?_)
  refine s_alen20 (pc2 := 25) X dX4_startIn_24 rfl (fun v4 hv4 => ?_)
  refine s_copy (pc2 := 28) X dX4_startIn_25 rfl ml_RX4_37 nm_arraycopyName sm_arraycopyName ini_System (inI_c 0 rfl) (inI_c 0 rfl) hv4 hf1 hl1 (st_room (Nat.le_of_ble_eq_true rfl)) ?_
  refine s_aload_n (j := 1) (pc2 := 29) X dX4_startIn_28 rfl rfl ?_
  refine s_getR (pc2 := 32) X dX4_startIn_29 rfl fl_RX4_43 rfl (fun v5 => ?_)
  refine s_iconst (n := 0) (pc2 := 33) X dX4_startIn_32 rfl ?_
  refine s_aload_n (j := 0) (pc2 := 34) X dX4_startIn_33 rfl rfl ?_
  refine s_getR (pc2 := 37) X dX4_startIn_34 rfl fl_RX4_22 rfl (fun v6 => ?_)
  refine s_iconst (n := 0) (pc2 := 38) X dX4_startIn_37 rfl ?_
  refine s_aload_n (j := 0) (pc2 := 39) X dX4_startIn_38 rfl rfl ?_
  refine s_getR (pc2 := 42) X dX4_startIn_39 rfl fl_RX4_22 rfl (fun v7 => ?_)
  refine s_alen20 (pc2 := 43) X dX4_startIn_42 rfl (fun v8 hv8 => ?_)
  refine s_copy (pc2 := 46) X dX4_startIn_43 rfl ml_RX4_37 nm_arraycopyName sm_arraycopyName ini_System (inI_c 0 rfl) (inI_c 0 rfl) hv8 hf1 hl1 (st_room (Nat.le_of_ble_eq_true rfl)) ?_
  refine s_aload_n (j := 0) (pc2 := 47) X dX4_startIn_46 rfl rfl ?_
  refine s_getR (pc2 := 50) X dX4_startIn_47 rfl fl_RX4_19 rfl (fun v9 => ?_)
  refine s_iconst (n := 0) (pc2 := 51) X dX4_startIn_50 rfl ?_
  refine s_callSV (d2 := d - 1) (As := [vR C.1.1 v9, vI 0]) (st := []) (pc2 := 54) X dX4_startIn_51 rfl ml_RX4_46 sm_J7_fill_53178 (c_J7_fill_53178 (d - 1) (by omega) C.1 C.2.2.1 v9 0 (inI_c 0 rfl)) hy_J7_fill_53178 rfl rfl hf hlo (st_room (Nat.le_of_ble_eq_true rfl)) hcs (fun _ => ?_)
  refine s_aload_n (j := 0) (pc2 := 55) X dX4_startIn_54 rfl rfl ?_
  refine s_getR (pc2 := 58) X dX4_startIn_55 rfl fl_RX4_25 rfl (fun v10 => ?_)
  refine s_iconst (n := 0) (pc2 := 59) X dX4_startIn_58 rfl ?_
  refine s_callSV (d2 := d - 1) (As := [vR C.1.1 v10, vI 0]) (st := []) (pc2 := 62) X dX4_startIn_59 rfl ml_RX4_46 sm_J7_fill_53178 (c_J7_fill_53178 (d - 1) (by omega) C.1 C.2.2.1 v10 0 (inI_c 0 rfl)) hy_J7_fill_53178 rfl rfl hf hlo (st_room (Nat.le_of_ble_eq_true rfl)) hcs (fun _ => ?_)
  exact s_ret X dX4_startIn_62
theorem c_X4_startIn (d : Nat) (hd : 2 ≤ d) (G : hG) (l : Launch) (l0 : Nat) (l1 : Nat) : hMet G l yX4_startIn cX4_startIn 2 none d 0 0 [vR G.1 l0, vR G.1 l1] (m_X4_startIn l0 l1) := by
  refine hMet.of (lv := [(0, vR G.1 l0), (1, vR G.1 l1)]) (by decide +kernel) (by simp [lg_sl, vR_cat, vI_cat, vL_cat, vS_cat2, vT_cat2]) (by simp [lv_args, vR_cat, vI_cat, vL_cat, vS_cat2, vT_cat2]) (fun C K X => ?_)
  obtain ⟨rfl, rfl, K⟩ := K
  exact z_X4_startIn d hd ⟨rfl, rfl, K⟩ X l0 l1
def m_X4_copy (l0 : Nat) (l1 : Nat) : hM :=
  hgR 4 l1 0 fun v1 =>
  hpR 4 l0 0 v1 <|
  hgI 4 l1 1 fun v2 =>
  hpI 4 l0 1 v2 <|
  hgR 4 l1 2 fun v3 =>
  hgR 4 l0 2 fun v4 =>
  hgR 4 l0 2 fun v5 =>
  hlen 20 v5 fun v6 =>
  hcpy v3 0 v4 0 v6 <|
  hgR 4 l1 3 fun v7 =>
  hgR 4 l0 3 fun v8 =>
  hgR 4 l0 3 fun v9 =>
  hlen 20 v9 fun v10 =>
  hcpy v7 0 v8 0 v10 <|
  hgR 4 l1 4 fun v11 =>
  hgR 4 l0 4 fun v12 =>
  hgR 4 l0 4 fun v13 =>
  hlen 20 v13 fun v14 =>
  hcpy v11 0 v12 0 v14 <|
  hgR 4 l1 5 fun v15 =>
  hgR 4 l0 5 fun v16 =>
  hgR 4 l0 5 fun v17 =>
  hlen 20 v17 fun v18 =>
  hcpy v15 0 v16 0 v18 <|
  hret 0
set_option maxRecDepth 4000 in
set_option maxHeartbeats 20000000 in
theorem z_X4_copy (d : Nat) (hd : 1 ≤ d) {C : hCx} (K : hCtx C.1 C.2.2.1 d 0 0 "copy" C) (X : hOK C cX4_copy RX4 2 none) (l0 : Nat) (l1 : Nat) : hSim C none 0 0 2 0 [(0, vR C.1.1 l0), (1, vR C.1.1 l1)] [] 0 0 (m_X4_copy l0 l1) := by
  obtain ⟨⟨hf, hlo⟩, ⟨hc1, hc2⟩, hf1, hl1⟩ := K_room K (by omega)
  have hcs : 0 ≤ C.2.2.2.2.1.cells ∧ 0 ≤ C.2.2.2.2.1.slots := ⟨Nat.zero_le _, Nat.zero_le _⟩
  unfold m_X4_copy
  refine s_aload_n (j := 0) (pc2 := 1) X dX4_copy_0 rfl rfl ?_
  refine s_aload_n (j := 1) (pc2 := 2) X dX4_copy_1 rfl rfl ?_
  refine s_getR (pc2 := 5) X dX4_copy_2 rfl fl_RX4_28 rfl (fun v1 => ?_)
  refine s_putR (pc2 := 8) X dX4_copy_5 rfl fl_RX4_28 (Or.inl rfl) rfl ?_
  refine s_aload_n (j := 0) (pc2 := 9) X dX4_copy_8 rfl rfl ?_
  refine s_aload_n (j := 1) (pc2 := 10) X dX4_copy_9 rfl rfl ?_
  refine s_getI (pc2 := 13) X dX4_copy_10 rfl fl_RX4_9 rfl (fun v2 hv2 => ?_)
  refine s_putI (pc2 := 16) X dX4_copy_13 rfl fl_RX4_9 (Or.inl rfl) rfl hv2 ?_
  refine s_aload_n (j := 1) (pc2 := 17) X dX4_copy_16 rfl rfl ?_
  refine s_getR (pc2 := 20) X dX4_copy_17 rfl fl_RX4_15 rfl (fun v3 => ?_)
  refine s_iconst (n := 0) (pc2 := 21) X dX4_copy_20 rfl ?_
  refine s_aload_n (j := 0) (pc2 := 22) X dX4_copy_21 rfl rfl ?_
  refine s_getR (pc2 := 25) X dX4_copy_22 rfl fl_RX4_15 rfl (fun v4 => ?_)
  refine s_iconst (n := 0) (pc2 := 26) X dX4_copy_25 rfl ?_
  refine s_aload_n (j := 0) (pc2 := 27) X dX4_copy_26 rfl rfl ?_
  refine s_getR (pc2 := 30) X dX4_copy_27 rfl fl_RX4_15 rfl (fun v5 => ?_)
  refine s_alen20 (pc2 := 31) X dX4_copy_30 rfl (fun v6 hv6 => ?_)
  refine s_copy (pc2 := 34) X dX4_copy_31 rfl ml_RX4_37 nm_arraycopyName sm_arraycopyName ini_System (inI_c 0 rfl) (inI_c 0 rfl) hv6 hf1 hl1 (st_room (Nat.le_of_ble_eq_true rfl)) ?_
  refine s_aload_n (j := 1) (pc2 := 35) X dX4_copy_34 rfl rfl ?_
  refine s_getR (pc2 := 38) X dX4_copy_35 rfl fl_RX4_19 rfl (fun v7 => ?_)
  refine s_iconst (n := 0) (pc2 := 39) X dX4_copy_38 rfl ?_
  refine s_aload_n (j := 0) (pc2 := 40) X dX4_copy_39 rfl rfl ?_
  refine s_getR (pc2 := 43) X dX4_copy_40 rfl fl_RX4_19 rfl (fun v8 => ?_)
  refine s_iconst (n := 0) (pc2 := 44) X dX4_copy_43 rfl ?_
  refine s_aload_n (j := 0) (pc2 := 45) X dX4_copy_44 rfl rfl ?_
  refine s_getR (pc2 := 48) X dX4_copy_45 rfl fl_RX4_19 rfl (fun v9 => ?_)
  refine s_alen20 (pc2 := 49) X dX4_copy_48 rfl (fun v10 hv10 => ?_)
  refine s_copy (pc2 := 52) X dX4_copy_49 rfl ml_RX4_37 nm_arraycopyName sm_arraycopyName ini_System (inI_c 0 rfl) (inI_c 0 rfl) hv10 hf1 hl1 (st_room (Nat.le_of_ble_eq_true rfl)) ?_
  refine s_aload_n (j := 1) (pc2 := 53) X dX4_copy_52 rfl rfl ?_
  refine s_getR (pc2 := 56) X dX4_copy_53 rfl fl_RX4_22 rfl (fun v11 => ?_)
  refine s_iconst (n := 0) (pc2 := 57) X dX4_copy_56 rfl ?_
  refine s_aload_n (j := 0) (pc2 := 58) X dX4_copy_57 rfl rfl ?_
  refine s_getR (pc2 := 61) X dX4_copy_58 rfl fl_RX4_22 rfl (fun v12 => ?_)
  refine s_iconst (n := 0) (pc2 := 62) X dX4_copy_61 rfl ?_
  refine s_aload_n (j := 0) (pc2 := 63) X dX4_copy_62 rfl rfl ?_
  refine s_getR (pc2 := 66) X dX4_copy_63 rfl fl_RX4_22 rfl (fun v13 => ?_)
  refine s_alen20 (pc2 := 67) X dX4_copy_66 rfl (fun v14 hv14 => ?_)
  refine s_copy (pc2 := 70) X dX4_copy_67 rfl ml_RX4_37 nm_arraycopyName sm_arraycopyName ini_System (inI_c 0 rfl) (inI_c 0 rfl) hv14 hf1 hl1 (st_room (Nat.le_of_ble_eq_true rfl)) ?_
  refine s_aload_n (j := 1) (pc2 := 71) X dX4_copy_70 rfl rfl ?_
  refine s_getR (pc2 := 74) X dX4_copy_71 rfl fl_RX4_25 rfl (fun v15 => ?_)
  refine s_iconst (n := 0) (pc2 := 75) X dX4_copy_74 rfl ?_
  refine s_aload_n (j := 0) (pc2 := 76) X dX4_copy_75 rfl rfl ?_
  refine s_getR (pc2 := 79) X dX4_copy_76 rfl fl_RX4_25 rfl (fun v16 => ?_)
  refine s_iconst (n := 0) (pc2 := 80) X dX4_copy_79 rfl ?_
  refine s_aload_n (j := 0) (pc2 := 81) X dX4_copy_80 rfl rfl ?_
  refine s_getR (pc2 := 84) X dX4_copy_81 rfl fl_RX4_25 rfl (fun v17 => ?_)
  refine s_alen20 (pc2 := 85) X dX4_copy_84 rfl (fun v18 hv18 => ?_)
  refine s_copy (pc2 := 88) X dX4_copy_85 rfl ml_RX4_37 nm_arraycopyName sm_arraycopyName ini_System (inI_c 0 rfl) (inI_c 0 rfl) hv18 hf1 hl1 (st_room (Nat.le_of_ble_eq_true rfl)) ?_
  exact s_ret X dX4_copy_88
theorem c_X4_copy (d : Nat) (hd : 1 ≤ d) (G : hG) (l : Launch) (l0 : Nat) (l1 : Nat) : hMet G l yX4_copy cX4_copy 2 none d 0 0 [vR G.1 l0, vR G.1 l1] (m_X4_copy l0 l1) := by
  refine hMet.of (lv := [(0, vR G.1 l0), (1, vR G.1 l1)]) (by decide +kernel) (by simp [lg_sl, vR_cat, vI_cat, vL_cat, vS_cat2, vT_cat2]) (by simp [lv_args, vR_cat, vI_cat, vL_cat, vS_cat2, vT_cat2]) (fun C K X => ?_)
  obtain ⟨rfl, rfl, K⟩ := K
  exact z_X4_copy d hd ⟨rfl, rfl, K⟩ X l0 l1
def m_X4_leftTo (l0 : Nat) (l1 : Int) (l2 : Int) : hM :=
  hgR 4 l0 0 fun v1 =>
  hgI 7 v1 1 fun v2 =>
  hgR 4 l0 4 fun v3 =>
  haI 20 v3 ((w32 (((w32 (l1 * 9))) + l2))) fun v4 =>
  hret ((w32 (v2 - v4)))
set_option maxRecDepth 4000 in
set_option maxHeartbeats 20000000 in
theorem z_X4_leftTo (d : Nat) (hd : 1 ≤ d) {C : hCx} (K : hCtx C.1 C.2.2.1 d 0 0 "leftTo" C) (X : hOK C cX4_leftTo RX4 3 (some .int)) (l0 : Nat) (l1 : Int) (l2 : Int) (h1 : inI l1) (h2 : inI l2) : hSim C (some .int) 0 0 3 0 [(0, vR C.1.1 l0), (1, vI l1), (2, vI l2)] [] 0 0 (m_X4_leftTo l0 l1 l2) := by
  obtain ⟨⟨hf, hlo⟩, ⟨hc1, hc2⟩, hf1, hl1⟩ := K_room K (by omega)
  have hcs : 0 ≤ C.2.2.2.2.1.cells ∧ 0 ≤ C.2.2.2.2.1.slots := ⟨Nat.zero_le _, Nat.zero_le _⟩
  unfold m_X4_leftTo
  refine s_aload_n (j := 0) (pc2 := 1) X dX4_leftTo_0 rfl rfl ?_
  refine s_getR (pc2 := 4) X dX4_leftTo_1 rfl fl_RX4_28 rfl (fun v1 => ?_)
  refine s_getI (pc2 := 7) X dX4_leftTo_4 rfl fl_RX4_52 rfl (fun v2 hv2 => ?_)
  refine s_aload_n (j := 0) (pc2 := 8) X dX4_leftTo_7 rfl rfl ?_
  refine s_getR (pc2 := 11) X dX4_leftTo_8 rfl fl_RX4_22 rfl (fun v3 => ?_)
  refine s_iload_n (j := 1) (pc2 := 12) X dX4_leftTo_11 rfl rfl ?_
  refine s_bipush (n := 9) (pc2 := 14) X dX4_leftTo_12 rfl rfl ?_
  refine s_imul (pc2 := 15) X dX4_leftTo_14 rfl ?_
  refine s_iload_n (j := 2) (pc2 := 16) X dX4_leftTo_15 rfl rfl ?_
  refine s_iadd (pc2 := 17) X dX4_leftTo_16 rfl ?_
  refine s_iald (pc2 := 18) X dX4_leftTo_17 rfl (fun v4 hv4 => ?_)
  refine s_isub (pc2 := 19) X dX4_leftTo_18 rfl ?_
  exact s_iret X dX4_leftTo_19 (w32_in _)
theorem c_X4_leftTo (d : Nat) (hd : 1 ≤ d) (G : hG) (l : Launch) (l0 : Nat) (l1 : Int) (l2 : Int) (h1 : inI l1) (h2 : inI l2) : hMet G l yX4_leftTo cX4_leftTo 3 (some .int) d 0 0 [vR G.1 l0, vI l1, vI l2] (m_X4_leftTo l0 l1 l2) := by
  refine hMet.of (lv := [(0, vR G.1 l0), (1, vI l1), (2, vI l2)]) (by decide +kernel) (by simp [lg_sl, vR_cat, vI_cat, vL_cat, vS_cat2, vT_cat2]) (by simp [lv_args, vR_cat, vI_cat, vL_cat, vS_cat2, vT_cat2]) (fun C K X => ?_)
  obtain ⟨rfl, rfl, K⟩ := K
  exact z_X4_leftTo d hd ⟨rfl, rfl, K⟩ X l0 l1 l2 h1 h2
def m_X4_tellLeft_L2 : Nat → Nat → Int → Nat → Int → hM
  | 0, _, _, _, _ => hfail
  | n + 1, l0, l1, l2, l3 =>
    hgR 4 l0 0 fun v1 =>
  hgR 7 v1 2 fun v2 =>
  hgI 1 v2 3 fun v3 =>
  hif (l3 ≥ v3) (
hret 0) (
hcallV 4 l0 (m_X4_leftTo l0 l1 l3) fun v4 =>
  hsI 20 l2 l3 v4 <|
  hlet (w32 (l3 + 1)) fun (w5 : Int) =>
  m_X4_tellLeft_L2 n l0 l1 l2 w5)
def m_X4_tellLeft (l0 : Nat) (l1 : Int) (l2 : Nat) : hM :=
  hlet (0 : Int) fun (w1 : Int) =>
  m_X4_tellLeft_L2 1000000000 l0 l1 l2 w1
set_option maxRecDepth 4000 in
theorem z_X4_tellLeft_L2 (d : Nat) (hd : 2 ≤ d) {C : hCx} (K : hCtx C.1 C.2.2.1 d 0 0 "tellLeft" C) (X : hOK C cX4_tellLeft RX4 4 none) : ∀ (n : Nat) (l0 : Nat) (l1 : Int) (l2 : Nat) (l3 : Int) (h1 : inI l1) (h3 : inI l3), hSim C none 0 0 4 2 [(0, vR C.1.1 l0), (1, vI l1), (2, vR C.1.1 l2), (3, vI l3)] [] 0 0 (m_X4_tellLeft_L2 n l0 l1 l2 l3) := by
  obtain ⟨⟨hf, hlo⟩, ⟨hc1, hc2⟩, hf1, hl1⟩ := K_room K (by omega)
  have hcs : 0 ≤ C.2.2.2.2.1.cells ∧ 0 ≤ C.2.2.2.2.1.slots := ⟨Nat.zero_le _, Nat.zero_le _⟩
  intro n
  induction n with
  | zero => intros; exact s_none (fun _ => rfl)
  | succ n ih =>
    intro l0 l1 l2 l3 h1 h3
    unfold m_X4_tellLeft_L2
    refine s_iload_n (j := 3) (pc2 := 3) X dX4_tellLeft_2 rfl rfl ?_
    refine s_aload_n (j := 0) (pc2 := 4) X dX4_tellLeft_3 rfl rfl ?_
    refine s_getR (pc2 := 7) X dX4_tellLeft_4 rfl fl_RX4_28 rfl (fun v1 => ?_)
    refine s_getR (pc2 := 10) X dX4_tellLeft_7 rfl fl_RX4_55 rfl (fun v2 => ?_)
    refine s_getI (pc2 := 13) X dX4_tellLeft_10 rfl fl_RX4_59 rfl (fun v3 hv3 => ?_)
    refine s_icge (tgt := 31) X dX4_tellLeft_13 (by decide) rfl h3 hv3 ?_ ?_
    · exact s_ret X dX4_tellLeft_31
    · refine s_aload_n (j := 2) (pc2 := 17) X dX4_tellLeft_16 rfl rfl ?_
      refine s_iload_n (j := 3) (pc2 := 18) X dX4_tellLeft_17 rfl rfl ?_
      refine s_aload_n (j := 0) (pc2 := 19) X dX4_tellLeft_18 rfl rfl ?_
      refine s_iload_n (j := 1) (pc2 := 20) X dX4_tellLeft_19 rfl rfl ?_
      refine s_iload_n (j := 3) (pc2 := 21) X dX4_tellLeft_20 rfl rfl ?_
      refine s_callVI (d2 := d - 1) (As := [vI l1, vI l3]) (st := [vI l3, vR C.1.1 l2]) (pc2 := 24) X dX4_tellLeft_21 rfl ml_RX4_64 im_X4_leftTo se_X4_leftTo kX4 rfl (c_X4_leftTo (d - 1) (by omega) C.1 C.2.2.1 l0 l1 l3 h1 h3) hy_X4_leftTo rfl rfl hf hlo (st_room (Nat.le_of_ble_eq_true rfl)) hcs (fun v4 hv4 => ?_)
      refine s_iast (pc2 := 25) X dX4_tellLeft_24 rfl hv4 ?_
      refine s_iinc (j := 3) (pc2 := 28) X dX4_tellLeft_25 rfl (by decide) rfl rfl rfl cat1_R (fun w5 hw5 => ?_)
      refine s_goto (pc2 := 2) X dX4_tellLeft_28 (by decide) ?_
      refine s_sub (lv2 := [(0, vR C.1.1 l0), (1, vI l1), (2, vR C.1.1 l2), (3, vI w5)]) [1, 2, 3, 0] rfl ?_
      exact ih l0 l1 l2 w5 h1 hw5
set_option maxRecDepth 4000 in
set_option maxHeartbeats 20000000 in
theorem z_X4_tellLeft (d : Nat) (hd : 2 ≤ d) {C : hCx} (K : hCtx C.1 C.2.2.1 d 0 0 "tellLeft" C) (X : hOK C cX4_tellLeft RX4 4 none) (l0 : Nat) (l1 : Int) (l2 : Nat) (h1 : inI l1) : hSim C none 0 0 4 0 [(0, vR C.1.1 l0), (1, vI l1), (2, vR C.1.1 l2)] [] 0 0 (m_X4_tellLeft l0 l1 l2) := by
  obtain ⟨⟨hf, hlo⟩, ⟨hc1, hc2⟩, hf1, hl1⟩ := K_room K (by omega)
  have hcs : 0 ≤ C.2.2.2.2.1.cells ∧ 0 ≤ C.2.2.2.2.1.slots := ⟨Nat.zero_le _, Nat.zero_le _⟩
  unfold m_X4_tellLeft
  refine s_iconst (n := 0) (pc2 := 1) X dX4_tellLeft_0 rfl ?_
  refine s_istore_n (pc2 := 2) X dX4_tellLeft_1 rfl (by decide) rfl rfl cat1_R (inI_c 0 rfl) (fun w1 hw1 => ?_)
  refine s_sub (lv2 := [(0, vR C.1.1 l0), (1, vI l1), (2, vR C.1.1 l2), (3, vI w1)]) [1, 2, 3, 0] rfl ?_
  exact z_X4_tellLeft_L2 d hd K X 1000000000 l0 l1 l2 w1 h1 hw1
theorem c_X4_tellLeft (d : Nat) (hd : 2 ≤ d) (G : hG) (l : Launch) (l0 : Nat) (l1 : Int) (l2 : Nat) (h1 : inI l1) : hMet G l yX4_tellLeft cX4_tellLeft 4 none d 0 0 [vR G.1 l0, vI l1, vR G.1 l2] (m_X4_tellLeft l0 l1 l2) := by
  refine hMet.of (lv := [(0, vR G.1 l0), (1, vI l1), (2, vR G.1 l2)]) (by decide +kernel) (by simp [lg_sl, vR_cat, vI_cat, vL_cat, vS_cat2, vT_cat2]) (by simp [lv_args, vR_cat, vI_cat, vL_cat, vS_cat2, vT_cat2]) (fun C K X => ?_)
  obtain ⟨rfl, rfl, K⟩ := K
  exact z_X4_tellLeft d hd ⟨rfl, rfl, K⟩ X l0 l1 l2 h1
def m_X4_lostBy_L33 (k4 : Nat → Int → Int → Int → hM) (l0 : Nat) (l1 : Int) (l2 : Int) (l3 : Int) : hM :=
  hlet (w32 (l3 + 1)) fun (w1 : Int) =>
  k4 l0 l1 l2 w1
def m_X4_lostBy_L4 : Nat → Nat → Int → Int → Int → hM
  | 0, _, _, _, _ => hfail
  | n + 1, l0, l1, l2, l3 =>
    hgR 4 l0 0 fun v1 =>
  hgR 7 v1 2 fun v2 =>
  hgI 1 v2 3 fun v3 =>
  hif (l3 ≥ v3) (
hret l2) (
hcallV 4 l0 (m_X4_leftTo l0 l1 l3) fun v4 =>
  hif (v4 ≠ 0) (
m_X4_lostBy_L33 (m_X4_lostBy_L4 n) l0 l1 l2 l3) (
hlet ((iorZ l2 ((ishlZ 1 l3)))) fun (w5 : Int) =>
  m_X4_lostBy_L33 (m_X4_lostBy_L4 n) l0 l1 w5 l3))
def m_X4_lostBy (l0 : Nat) (l1 : Int) : hM :=
  hlet (0 : Int) fun (w1 : Int) =>
  hlet (0 : Int) fun (w2 : Int) =>
  m_X4_lostBy_L4 1000000000 l0 l1 w1 w2
set_option maxRecDepth 4000 in
theorem z_X4_lostBy_L33 (d : Nat) (hd : 2 ≤ d) {C : hCx} (K : hCtx C.1 C.2.2.1 d 0 0 "lostBy" C) (X : hOK C cX4_lostBy RX4 4 (some .int)) (k4 : Nat → Int → Int → Int → hM) (hk4 : ∀ (l0 : Nat) (l1 : Int) (l2 : Int) (l3 : Int), inI l1 → inI l2 → inI l3 → hSim C (some .int) 0 0 4 4 [(0, vR C.1.1 l0), (1, vI l1), (2, vI l2), (3, vI l3)] [] 0 0 (k4 l0 l1 l2 l3)) (l0 : Nat) (l1 : Int) (l2 : Int) (l3 : Int) (h1 : inI l1) (h2 : inI l2) (h3 : inI l3) : hSim C (some .int) 0 0 4 33 [(0, vR C.1.1 l0), (1, vI l1), (2, vI l2), (3, vI l3)] [] 0 0 (m_X4_lostBy_L33 k4 l0 l1 l2 l3) := by
  obtain ⟨⟨hf, hlo⟩, ⟨hc1, hc2⟩, hf1, hl1⟩ := K_room K (by omega)
  have hcs : 0 ≤ C.2.2.2.2.1.cells ∧ 0 ≤ C.2.2.2.2.1.slots := ⟨Nat.zero_le _, Nat.zero_le _⟩
  unfold m_X4_lostBy_L33
  refine s_iinc (j := 3) (pc2 := 36) X dX4_lostBy_33 rfl (by decide) rfl rfl rfl cat1_I (fun w1 hw1 => ?_)
  refine s_goto (pc2 := 4) X dX4_lostBy_36 (by decide) ?_
  refine s_sub (lv2 := [(0, vR C.1.1 l0), (1, vI l1), (2, vI l2), (3, vI w1)]) [1, 2, 3, 0] rfl ?_
  exact hk4 l0 l1 l2 w1 h1 h2 hw1
set_option maxRecDepth 4000 in
theorem z_X4_lostBy_L4 (d : Nat) (hd : 2 ≤ d) {C : hCx} (K : hCtx C.1 C.2.2.1 d 0 0 "lostBy" C) (X : hOK C cX4_lostBy RX4 4 (some .int)) : ∀ (n : Nat) (l0 : Nat) (l1 : Int) (l2 : Int) (l3 : Int) (h1 : inI l1) (h2 : inI l2) (h3 : inI l3), hSim C (some .int) 0 0 4 4 [(0, vR C.1.1 l0), (1, vI l1), (2, vI l2), (3, vI l3)] [] 0 0 (m_X4_lostBy_L4 n l0 l1 l2 l3) := by
  obtain ⟨⟨hf, hlo⟩, ⟨hc1, hc2⟩, hf1, hl1⟩ := K_room K (by omega)
  have hcs : 0 ≤ C.2.2.2.2.1.cells ∧ 0 ≤ C.2.2.2.2.1.slots := ⟨Nat.zero_le _, Nat.zero_le _⟩
  intro n
  induction n with
  | zero => intros; exact s_none (fun _ => rfl)
  | succ n ih =>
    intro l0 l1 l2 l3 h1 h2 h3
    unfold m_X4_lostBy_L4
    refine s_iload_n (j := 3) (pc2 := 5) X dX4_lostBy_4 rfl rfl ?_
    refine s_aload_n (j := 0) (pc2 := 6) X dX4_lostBy_5 rfl rfl ?_
    refine s_getR (pc2 := 9) X dX4_lostBy_6 rfl fl_RX4_28 rfl (fun v1 => ?_)
    refine s_getR (pc2 := 12) X dX4_lostBy_9 rfl fl_RX4_55 rfl (fun v2 => ?_)
    refine s_getI (pc2 := 15) X dX4_lostBy_12 rfl fl_RX4_59 rfl (fun v3 hv3 => ?_)
    refine s_icge (tgt := 39) X dX4_lostBy_15 (by decide) rfl h3 hv3 ?_ ?_
    · refine s_iload_n (j := 2) (pc2 := 40) X dX4_lostBy_39 rfl rfl ?_
      exact s_iret X dX4_lostBy_40 h2
    · refine s_aload_n (j := 0) (pc2 := 19) X dX4_lostBy_18 rfl rfl ?_
      refine s_iload_n (j := 1) (pc2 := 20) X dX4_lostBy_19 rfl rfl ?_
      refine s_iload_n (j := 3) (pc2 := 21) X dX4_lostBy_20 rfl rfl ?_
      refine s_callVI (d2 := d - 1) (As := [vI l1, vI l3]) (st := []) (pc2 := 24) X dX4_lostBy_21 rfl ml_RX4_64 im_X4_leftTo se_X4_leftTo kX4 rfl (c_X4_leftTo (d - 1) (by omega) C.1 C.2.2.1 l0 l1 l3 h1 h3) hy_X4_leftTo rfl rfl hf hlo (st_room (Nat.le_of_ble_eq_true rfl)) hcs (fun v4 hv4 => ?_)
      refine s_ifne (tgt := 33) X dX4_lostBy_24 (by decide) rfl hv4 ?_ ?_
      · exact z_X4_lostBy_L33 d hd K X (m_X4_lostBy_L4 n) ih l0 l1 l2 l3 h1 h2 h3
      · refine s_iload_n (j := 2) (pc2 := 28) X dX4_lostBy_27 rfl rfl ?_
        refine s_iconst (n := 1) (pc2 := 29) X dX4_lostBy_28 rfl ?_
        refine s_iload_n (j := 3) (pc2 := 30) X dX4_lostBy_29 rfl rfl ?_
        refine s_ishl (pc2 := 31) X dX4_lostBy_30 rfl ?_
        refine s_ior (pc2 := 32) X dX4_lostBy_31 rfl ?_
        refine s_istore_n (pc2 := 33) X dX4_lostBy_32 rfl (by decide) rfl rfl cat1_I (iorZ_in _ _) (fun w5 hw5 => ?_)
        refine s_sub (lv2 := [(0, vR C.1.1 l0), (1, vI l1), (2, vI w5), (3, vI l3)]) [1, 2, 0, 3] rfl ?_
        exact z_X4_lostBy_L33 d hd K X (m_X4_lostBy_L4 n) ih l0 l1 w5 l3 h1 hw5 h3
set_option maxRecDepth 4000 in
set_option maxHeartbeats 20000000 in
theorem z_X4_lostBy (d : Nat) (hd : 2 ≤ d) {C : hCx} (K : hCtx C.1 C.2.2.1 d 0 0 "lostBy" C) (X : hOK C cX4_lostBy RX4 4 (some .int)) (l0 : Nat) (l1 : Int) (h1 : inI l1) : hSim C (some .int) 0 0 4 0 [(0, vR C.1.1 l0), (1, vI l1)] [] 0 0 (m_X4_lostBy l0 l1) := by
  obtain ⟨⟨hf, hlo⟩, ⟨hc1, hc2⟩, hf1, hl1⟩ := K_room K (by omega)
  have hcs : 0 ≤ C.2.2.2.2.1.cells ∧ 0 ≤ C.2.2.2.2.1.slots := ⟨Nat.zero_le _, Nat.zero_le _⟩
  unfold m_X4_lostBy
  refine s_iconst (n := 0) (pc2 := 1) X dX4_lostBy_0 rfl ?_
  refine s_istore_n (pc2 := 2) X dX4_lostBy_1 rfl (by decide) rfl rfl cat1_I (inI_c 0 rfl) (fun w1 hw1 => ?_)
  refine s_iconst (n := 0) (pc2 := 3) X dX4_lostBy_2 rfl ?_
  refine s_istore_n (pc2 := 4) X dX4_lostBy_3 rfl (by decide) rfl rfl cat1_I (inI_c 0 rfl) (fun w2 hw2 => ?_)
  refine s_sub (lv2 := [(0, vR C.1.1 l0), (1, vI l1), (2, vI w1), (3, vI w2)]) [2, 3, 1, 0] rfl ?_
  exact z_X4_lostBy_L4 d hd K X 1000000000 l0 l1 w1 w2 h1 hw1 hw2
theorem c_X4_lostBy (d : Nat) (hd : 2 ≤ d) (G : hG) (l : Launch) (l0 : Nat) (l1 : Int) (h1 : inI l1) : hMet G l yX4_lostBy cX4_lostBy 4 (some .int) d 0 0 [vR G.1 l0, vI l1] (m_X4_lostBy l0 l1) := by
  refine hMet.of (lv := [(0, vR G.1 l0), (1, vI l1)]) (by decide +kernel) (by simp [lg_sl, vR_cat, vI_cat, vL_cat, vS_cat2, vT_cat2]) (by simp [lv_args, vR_cat, vI_cat, vL_cat, vS_cat2, vT_cat2]) (fun C K X => ?_)
  obtain ⟨rfl, rfl, K⟩ := K
  exact z_X4_lostBy d hd ⟨rfl, rfl, K⟩ X l0 l1 h1
def m_X4_crossedByAll_L4 : Nat → Nat → Int → Int → Int → hM
  | 0, _, _, _, _ => hfail
  | n + 1, l0, l1, l2, l3 =>
    hgR 4 l0 0 fun v1 =>
  hgI 7 v1 7 fun v2 =>
  hif (l3 ≥ v2) (
hret l2) (
hgR 4 l0 4 fun v3 =>
  haI 20 v3 ((w32 (((w32 (l3 * 9))) + l1))) fun v4 =>
  hlet ((w32 (l2 + v4))) fun (w5 : Int) =>
  hlet (w32 (l3 + 1)) fun (w6 : Int) =>
  m_X4_crossedByAll_L4 n l0 l1 w5 w6)
def m_X4_crossedByAll (l0 : Nat) (l1 : Int) : hM :=
  hlet (0 : Int) fun (w1 : Int) =>
  hlet (0 : Int) fun (w2 : Int) =>
  m_X4_crossedByAll_L4 1000000000 l0 l1 w1 w2
set_option maxRecDepth 4000 in
theorem z_X4_crossedByAll_L4 (d : Nat) (hd : 1 ≤ d) {C : hCx} (K : hCtx C.1 C.2.2.1 d 0 0 "crossedByAll" C) (X : hOK C cX4_crossedByAll RX4 4 (some .int)) : ∀ (n : Nat) (l0 : Nat) (l1 : Int) (l2 : Int) (l3 : Int) (h1 : inI l1) (h2 : inI l2) (h3 : inI l3), hSim C (some .int) 0 0 4 4 [(0, vR C.1.1 l0), (1, vI l1), (2, vI l2), (3, vI l3)] [] 0 0 (m_X4_crossedByAll_L4 n l0 l1 l2 l3) := by
  obtain ⟨⟨hf, hlo⟩, ⟨hc1, hc2⟩, hf1, hl1⟩ := K_room K (by omega)
  have hcs : 0 ≤ C.2.2.2.2.1.cells ∧ 0 ≤ C.2.2.2.2.1.slots := ⟨Nat.zero_le _, Nat.zero_le _⟩
  intro n
  induction n with
  | zero => intros; exact s_none (fun _ => rfl)
  | succ n ih =>
    intro l0 l1 l2 l3 h1 h2 h3
    unfold m_X4_crossedByAll_L4
    refine s_iload_n (j := 3) (pc2 := 5) X dX4_crossedByAll_4 rfl rfl ?_
    refine s_aload_n (j := 0) (pc2 := 6) X dX4_crossedByAll_5 rfl rfl ?_
    refine s_getR (pc2 := 9) X dX4_crossedByAll_6 rfl fl_RX4_28 rfl (fun v1 => ?_)
    refine s_getI (pc2 := 12) X dX4_crossedByAll_9 rfl fl_RX4_68 rfl (fun v2 hv2 => ?_)
    refine s_icge (tgt := 35) X dX4_crossedByAll_12 (by decide) rfl h3 hv2 ?_ ?_
    · refine s_iload_n (j := 2) (pc2 := 36) X dX4_crossedByAll_35 rfl rfl ?_
      exact s_iret X dX4_crossedByAll_36 h2
    · refine s_iload_n (j := 2) (pc2 := 16) X dX4_crossedByAll_15 rfl rfl ?_
      refine s_aload_n (j := 0) (pc2 := 17) X dX4_crossedByAll_16 rfl rfl ?_
      refine s_getR (pc2 := 20) X dX4_crossedByAll_17 rfl fl_RX4_22 rfl (fun v3 => ?_)
      refine s_iload_n (j := 3) (pc2 := 21) X dX4_crossedByAll_20 rfl rfl ?_
      refine s_bipush (n := 9) (pc2 := 23) X dX4_crossedByAll_21 rfl rfl ?_
      refine s_imul (pc2 := 24) X dX4_crossedByAll_23 rfl ?_
      refine s_iload_n (j := 1) (pc2 := 25) X dX4_crossedByAll_24 rfl rfl ?_
      refine s_iadd (pc2 := 26) X dX4_crossedByAll_25 rfl ?_
      refine s_iald (pc2 := 27) X dX4_crossedByAll_26 rfl (fun v4 hv4 => ?_)
      refine s_iadd (pc2 := 28) X dX4_crossedByAll_27 rfl ?_
      refine s_istore_n (pc2 := 29) X dX4_crossedByAll_28 rfl (by decide) rfl rfl cat1_I (w32_in _) (fun w5 hw5 => ?_)
      refine s_iinc (j := 3) (pc2 := 32) X dX4_crossedByAll_29 rfl (by decide) rfl rfl rfl cat1_I (fun w6 hw6 => ?_)
      refine s_goto (pc2 := 4) X dX4_crossedByAll_32 (by decide) ?_
      refine s_sub (lv2 := [(0, vR C.1.1 l0), (1, vI l1), (2, vI w5), (3, vI w6)]) [2, 3, 1, 0] rfl ?_
      exact ih l0 l1 w5 w6 h1 hw5 hw6
set_option maxRecDepth 4000 in
set_option maxHeartbeats 20000000 in
theorem z_X4_crossedByAll (d : Nat) (hd : 1 ≤ d) {C : hCx} (K : hCtx C.1 C.2.2.1 d 0 0 "crossedByAll" C) (X : hOK C cX4_crossedByAll RX4 4 (some .int)) (l0 : Nat) (l1 : Int) (h1 : inI l1) : hSim C (some .int) 0 0 4 0 [(0, vR C.1.1 l0), (1, vI l1)] [] 0 0 (m_X4_crossedByAll l0 l1) := by
  obtain ⟨⟨hf, hlo⟩, ⟨hc1, hc2⟩, hf1, hl1⟩ := K_room K (by omega)
  have hcs : 0 ≤ C.2.2.2.2.1.cells ∧ 0 ≤ C.2.2.2.2.1.slots := ⟨Nat.zero_le _, Nat.zero_le _⟩
  unfold m_X4_crossedByAll
  refine s_iconst (n := 0) (pc2 := 1) X dX4_crossedByAll_0 rfl ?_
  refine s_istore_n (pc2 := 2) X dX4_crossedByAll_1 rfl (by decide) rfl rfl cat1_I (inI_c 0 rfl) (fun w1 hw1 => ?_)
  refine s_iconst (n := 0) (pc2 := 3) X dX4_crossedByAll_2 rfl ?_
  refine s_istore_n (pc2 := 4) X dX4_crossedByAll_3 rfl (by decide) rfl rfl cat1_I (inI_c 0 rfl) (fun w2 hw2 => ?_)
  refine s_sub (lv2 := [(0, vR C.1.1 l0), (1, vI l1), (2, vI w1), (3, vI w2)]) [2, 3, 1, 0] rfl ?_
  exact z_X4_crossedByAll_L4 d hd K X 1000000000 l0 l1 w1 w2 h1 hw1 hw2
theorem c_X4_crossedByAll (d : Nat) (hd : 1 ≤ d) (G : hG) (l : Launch) (l0 : Nat) (l1 : Int) (h1 : inI l1) : hMet G l yX4_crossedByAll cX4_crossedByAll 4 (some .int) d 0 0 [vR G.1 l0, vI l1] (m_X4_crossedByAll l0 l1) := by
  refine hMet.of (lv := [(0, vR G.1 l0), (1, vI l1)]) (by decide +kernel) (by simp [lg_sl, vR_cat, vI_cat, vL_cat, vS_cat2, vT_cat2]) (by simp [lv_args, vR_cat, vI_cat, vL_cat, vS_cat2, vT_cat2]) (fun C K X => ?_)
  obtain ⟨rfl, rfl, K⟩ := K
  exact z_X4_crossedByAll d hd ⟨rfl, rfl, K⟩ X l0 l1 h1
def m_X4_canCross_L35 (s0 : Int) : hM :=
  hretZ s0
def m_X4_canCross_L34 : hM :=
  m_X4_canCross_L35 0
def m_X4_canCross (l0 : Nat) (l1 : Int) (l2 : Int) : hM :=
  hgR 4 l0 0 fun v1 =>
  hgR 7 v1 2 fun v2 =>
  hgR 4 l0 2 fun v3 =>
  haI 20 v3 l1 fun v4 =>
  hcallV 1 v2 (m_X1_across v2 l2 v4) fun v5 =>
  hif (v5 = ((-1))) (
m_X4_canCross_L34) (
hcallV 4 l0 (m_X4_leftTo l0 l1 l2) fun v6 =>
  hif (v6 ≤ 0) (
m_X4_canCross_L34) (
m_X4_canCross_L35 1))
set_option maxRecDepth 4000 in
theorem z_X4_canCross_L35 (d : Nat) (hd : 2 ≤ d) {C : hCx} (K : hCtx C.1 C.2.2.1 d 0 0 "canCross" C) (X : hOK C cX4_canCross RX4 3 (some .boolean)) (s0 : Int) (g0 : inI s0) : hSim C (some .boolean) 0 0 3 35 [] [vI s0] 0 0 (m_X4_canCross_L35 s0) := by
  obtain ⟨⟨hf, hlo⟩, ⟨hc1, hc2⟩, hf1, hl1⟩ := K_room K (by omega)
  have hcs : 0 ≤ C.2.2.2.2.1.cells ∧ 0 ≤ C.2.2.2.2.1.slots := ⟨Nat.zero_le _, Nat.zero_le _⟩
  unfold m_X4_canCross_L35
  exact s_zret X dX4_canCross_35
set_option maxRecDepth 4000 in
theorem z_X4_canCross_L34 (d : Nat) (hd : 2 ≤ d) {C : hCx} (K : hCtx C.1 C.2.2.1 d 0 0 "canCross" C) (X : hOK C cX4_canCross RX4 3 (some .boolean)) : hSim C (some .boolean) 0 0 3 34 [] [] 0 0 (m_X4_canCross_L34) := by
  obtain ⟨⟨hf, hlo⟩, ⟨hc1, hc2⟩, hf1, hl1⟩ := K_room K (by omega)
  have hcs : 0 ≤ C.2.2.2.2.1.cells ∧ 0 ≤ C.2.2.2.2.1.slots := ⟨Nat.zero_le _, Nat.zero_le _⟩
  unfold m_X4_canCross_L34
  refine s_iconst (n := 0) (pc2 := 35) X dX4_canCross_34 rfl ?_
  exact z_X4_canCross_L35 d hd K X 0 (inI_c 0 rfl)
set_option maxRecDepth 4000 in
set_option maxHeartbeats 20000000 in
theorem z_X4_canCross (d : Nat) (hd : 2 ≤ d) {C : hCx} (K : hCtx C.1 C.2.2.1 d 0 0 "canCross" C) (X : hOK C cX4_canCross RX4 3 (some .boolean)) (l0 : Nat) (l1 : Int) (l2 : Int) (h1 : inI l1) (h2 : inI l2) : hSim C (some .boolean) 0 0 3 0 [(0, vR C.1.1 l0), (1, vI l1), (2, vI l2)] [] 0 0 (m_X4_canCross l0 l1 l2) := by
  obtain ⟨⟨hf, hlo⟩, ⟨hc1, hc2⟩, hf1, hl1⟩ := K_room K (by omega)
  have hcs : 0 ≤ C.2.2.2.2.1.cells ∧ 0 ≤ C.2.2.2.2.1.slots := ⟨Nat.zero_le _, Nat.zero_le _⟩
  unfold m_X4_canCross
  refine s_aload_n (j := 0) (pc2 := 1) X dX4_canCross_0 rfl rfl ?_
  refine s_getR (pc2 := 4) X dX4_canCross_1 rfl fl_RX4_28 rfl (fun v1 => ?_)
  refine s_getR (pc2 := 7) X dX4_canCross_4 rfl fl_RX4_55 rfl (fun v2 => ?_)
  refine s_iload_n (j := 2) (pc2 := 8) X dX4_canCross_7 rfl rfl ?_
  refine s_aload_n (j := 0) (pc2 := 9) X dX4_canCross_8 rfl rfl ?_
  refine s_getR (pc2 := 12) X dX4_canCross_9 rfl fl_RX4_15 rfl (fun v3 => ?_)
  refine s_iload_n (j := 1) (pc2 := 13) X dX4_canCross_12 rfl rfl ?_
  refine s_iald (pc2 := 14) X dX4_canCross_13 rfl (fun v4 hv4 => ?_)
  refine s_callVI (d2 := d - 1) (As := [vI l2, vI v4]) (st := []) (pc2 := 17) X dX4_canCross_14 rfl ml_RX4_71 im_X1_across se_X1_across kX1 rfl (c_X1_across (d - 1) (by omega) C.1 C.2.2.1 v2 l2 v4 h2 hv4) hy_X1_across rfl rfl hf hlo (st_room (Nat.le_of_ble_eq_true rfl)) hcs (fun v5 hv5 => ?_)
  refine s_iconst (n := (-1)) (pc2 := 18) X dX4_canCross_17 rfl ?_
  refine s_iceq (tgt := 34) X dX4_canCross_18 (by decide) rfl hv5 (inI_c (-1) rfl) ?_ ?_
  · refine s_sub (lv2 := []) [] rfl ?_
    exact z_X4_canCross_L34 d hd K X
  · refine s_aload_n (j := 0) (pc2 := 22) X dX4_canCross_21 rfl rfl ?_
    refine s_iload_n (j := 1) (pc2 := 23) X dX4_canCross_22 rfl rfl ?_
    refine s_iload_n (j := 2) (pc2 := 24) X dX4_canCross_23 rfl rfl ?_
    refine s_callVI (d2 := d - 1) (As := [vI l1, vI l2]) (st := []) (pc2 := 27) X dX4_canCross_24 rfl ml_RX4_64 im_X4_leftTo se_X4_leftTo kX4 rfl (c_X4_leftTo (d - 1) (by omega) C.1 C.2.2.1 l0 l1 l2 h1 h2) hy_X4_leftTo rfl rfl hf hlo (st_room (Nat.le_of_ble_eq_true rfl)) hcs (fun v6 hv6 => ?_)
    refine s_ifle (tgt := 34) X dX4_canCross_27 (by decide) rfl hv6 ?_ ?_
    · refine s_sub (lv2 := []) [] rfl ?_
      exact z_X4_canCross_L34 d hd K X
    · refine s_iconst (n := 1) (pc2 := 31) X dX4_canCross_30 rfl ?_
      refine s_goto (pc2 := 35) X dX4_canCross_31 (by decide) ?_
      refine s_sub (lv2 := []) [] rfl ?_
      exact z_X4_canCross_L35 d hd K X 1 (inI_c 1 rfl)
theorem c_X4_canCross (d : Nat) (hd : 2 ≤ d) (G : hG) (l : Launch) (l0 : Nat) (l1 : Int) (l2 : Int) (h1 : inI l1) (h2 : inI l2) : hMet G l yX4_canCross cX4_canCross 3 (some .boolean) d 0 0 [vR G.1 l0, vI l1, vI l2] (m_X4_canCross l0 l1 l2) := by
  refine hMet.of (lv := [(0, vR G.1 l0), (1, vI l1), (2, vI l2)]) (by decide +kernel) (by simp [lg_sl, vR_cat, vI_cat, vL_cat, vS_cat2, vT_cat2]) (by simp [lv_args, vR_cat, vI_cat, vL_cat, vS_cat2, vT_cat2]) (fun C K X => ?_)
  obtain ⟨rfl, rfl, K⟩ := K
  exact z_X4_canCross d hd ⟨rfl, rfl, K⟩ X l0 l1 l2 h1 h2
def m_X4_goOver (l0 : Nat) (l1 : Int) (l2 : Int) : hM :=
  hgR 4 l0 2 fun v1 =>
  hgR 4 l0 0 fun v2 =>
  hgR 7 v2 2 fun v3 =>
  hgR 4 l0 2 fun v4 =>
  haI 20 v4 l1 fun v5 =>
  hcallV 1 v3 (m_X1_across v3 l2 v5) fun v6 =>
  hsI 20 v1 l1 v6 <|
  hgR 4 l0 4 fun v7 =>
  haI 20 v7 ((w32 (((w32 (l1 * 9))) + l2))) fun v8 =>
  hsI 20 v7 ((w32 (((w32 (l1 * 9))) + l2))) ((w32 (v8 + 1))) <|
  hgR 4 l0 5 fun v9 =>
  haI 20 v9 ((w32 (((w32 (l1 * 9))) + l2))) fun v10 =>
  hsI 20 v9 ((w32 (((w32 (l1 * 9))) + l2))) ((w32 (v10 + 1))) <|
  hret 0
set_option maxRecDepth 4000 in
set_option maxHeartbeats 20000000 in
theorem z_X4_goOver (d : Nat) (hd : 2 ≤ d) {C : hCx} (K : hCtx C.1 C.2.2.1 d 0 0 "goOver" C) (X : hOK C cX4_goOver RX4 3 none) (l0 : Nat) (l1 : Int) (l2 : Int) (h1 : inI l1) (h2 : inI l2) : hSim C none 0 0 3 0 [(0, vR C.1.1 l0), (1, vI l1), (2, vI l2)] [] 0 0 (m_X4_goOver l0 l1 l2) := by
  obtain ⟨⟨hf, hlo⟩, ⟨hc1, hc2⟩, hf1, hl1⟩ := K_room K (by omega)
  have hcs : 0 ≤ C.2.2.2.2.1.cells ∧ 0 ≤ C.2.2.2.2.1.slots := ⟨Nat.zero_le _, Nat.zero_le _⟩
  unfold m_X4_goOver
  refine s_aload_n (j := 0) (pc2 := 1) X dX4_goOver_0 rfl rfl ?_
  refine s_getR (pc2 := 4) X dX4_goOver_1 rfl fl_RX4_15 rfl (fun v1 => ?_)
  refine s_iload_n (j := 1) (pc2 := 5) X dX4_goOver_4 rfl rfl ?_
  refine s_aload_n (j := 0) (pc2 := 6) X dX4_goOver_5 rfl rfl ?_
  refine s_getR (pc2 := 9) X dX4_goOver_6 rfl fl_RX4_28 rfl (fun v2 => ?_)
  refine s_getR (pc2 := 12) X dX4_goOver_9 rfl fl_RX4_55 rfl (fun v3 => ?_)
  refine s_iload_n (j := 2) (pc2 := 13) X dX4_goOver_12 rfl rfl ?_
  refine s_aload_n (j := 0) (pc2 := 14) X dX4_goOver_13 rfl rfl ?_
  refine s_getR (pc2 := 17) X dX4_goOver_14 rfl fl_RX4_15 rfl (fun v4 => ?_)
  refine s_iload_n (j := 1) (pc2 := 18) X dX4_goOver_17 rfl rfl ?_
  refine s_iald (pc2 := 19) X dX4_goOver_18 rfl (fun v5 hv5 => ?_)
  refine s_callVI (d2 := d - 1) (As := [vI l2, vI v5]) (st := [vI l1, vR C.1.1 v1]) (pc2 := 22) X dX4_goOver_19 rfl ml_RX4_71 im_X1_across se_X1_across kX1 rfl (c_X1_across (d - 1) (by omega) C.1 C.2.2.1 v3 l2 v5 h2 hv5) hy_X1_across rfl rfl hf hlo (st_room (Nat.le_of_ble_eq_true rfl)) hcs (fun v6 hv6 => ?_)
  refine s_iast (pc2 := 23) X dX4_goOver_22 rfl hv6 ?_
  refine s_aload_n (j := 0) (pc2 := 24) X dX4_goOver_23 rfl rfl ?_
  refine s_getR (pc2 := 27) X dX4_goOver_24 rfl fl_RX4_22 rfl (fun v7 => ?_)
  refine s_iload_n (j := 1) (pc2 := 28) X dX4_goOver_27 rfl rfl ?_
  refine s_bipush (n := 9) (pc2 := 30) X dX4_goOver_28 rfl rfl ?_
  refine s_imul (pc2 := 31) X dX4_goOver_30 rfl ?_
  refine s_iload_n (j := 2) (pc2 := 32) X dX4_goOver_31 rfl rfl ?_
  refine s_iadd (pc2 := 33) X dX4_goOver_32 rfl ?_
  refine s_dup2 (pc2 := 34) X dX4_goOver_33 rfl rfl (vR_cat _ _) ?_
  refine s_iald (pc2 := 35) X dX4_goOver_34 rfl (fun v8 hv8 => ?_)
  refine s_iconst (n := 1) (pc2 := 36) X dX4_goOver_35 rfl ?_
  refine s_iadd (pc2 := 37) X dX4_goOver_36 rfl ?_
  refine s_iast (pc2 := 38) X dX4_goOver_37 rfl (w32_in _) ?_
  refine s_aload_n (j := 0) (pc2 := 39) X dX4_goOver_38 rfl rfl ?_
  refine s_getR (pc2 := 42) X dX4_goOver_39 rfl fl_RX4_25 rfl (fun v9 => ?_)
  refine s_iload_n (j := 1) (pc2 := 43) X dX4_goOver_42 rfl rfl ?_
  refine s_bipush (n := 9) (pc2 := 45) X dX4_goOver_43 rfl rfl ?_
  refine s_imul (pc2 := 46) X dX4_goOver_45 rfl ?_
  refine s_iload_n (j := 2) (pc2 := 47) X dX4_goOver_46 rfl rfl ?_
  refine s_iadd (pc2 := 48) X dX4_goOver_47 rfl ?_
  refine s_dup2 (pc2 := 49) X dX4_goOver_48 rfl rfl (vR_cat _ _) ?_
  refine s_iald (pc2 := 50) X dX4_goOver_49 rfl (fun v10 hv10 => ?_)
  refine s_iconst (n := 1) (pc2 := 51) X dX4_goOver_50 rfl ?_
  refine s_iadd (pc2 := 52) X dX4_goOver_51 rfl ?_
  refine s_iast (pc2 := 53) X dX4_goOver_52 rfl (w32_in _) ?_
  exact s_ret X dX4_goOver_53
theorem c_X4_goOver (d : Nat) (hd : 2 ≤ d) (G : hG) (l : Launch) (l0 : Nat) (l1 : Int) (l2 : Int) (h1 : inI l1) (h2 : inI l2) : hMet G l yX4_goOver cX4_goOver 3 none d 0 0 [vR G.1 l0, vI l1, vI l2] (m_X4_goOver l0 l1 l2) := by
  refine hMet.of (lv := [(0, vR G.1 l0), (1, vI l1), (2, vI l2)]) (by decide +kernel) (by simp [lg_sl, vR_cat, vI_cat, vL_cat, vS_cat2, vT_cat2]) (by simp [lv_args, vR_cat, vI_cat, vL_cat, vS_cat2, vT_cat2]) (fun C K X => ?_)
  obtain ⟨rfl, rfl, K⟩ := K
  exact z_X4_goOver d hd ⟨rfl, rfl, K⟩ X l0 l1 l2 h1 h2
def m_X4_forget_L2 : Nat → Nat → Int → Int → hM
  | 0, _, _, _ => hfail
  | n + 1, l0, l1, l2 =>
    hgR 4 l0 0 fun v1 =>
  hgI 7 v1 7 fun v2 =>
  hif (l2 ≥ v2) (
hret 0) (
hgR 4 l0 4 fun v3 =>
  hsI 20 v3 ((w32 (((w32 (l2 * 9))) + l1))) 0 <|
  hgR 4 l0 5 fun v4 =>
  hsI 20 v4 ((w32 (((w32 (l2 * 9))) + l1))) 0 <|
  hlet (w32 (l2 + 1)) fun (w5 : Int) =>
  m_X4_forget_L2 n l0 l1 w5)
def m_X4_forget (l0 : Nat) (l1 : Int) : hM :=
  hlet (0 : Int) fun (w1 : Int) =>
  m_X4_forget_L2 1000000000 l0 l1 w1
set_option maxRecDepth 4000 in
theorem z_X4_forget_L2 (d : Nat) (hd : 1 ≤ d) {C : hCx} (K : hCtx C.1 C.2.2.1 d 0 0 "forget" C) (X : hOK C cX4_forget RX4 3 none) : ∀ (n : Nat) (l0 : Nat) (l1 : Int) (l2 : Int) (h1 : inI l1) (h2 : inI l2), hSim C none 0 0 3 2 [(0, vR C.1.1 l0), (1, vI l1), (2, vI l2)] [] 0 0 (m_X4_forget_L2 n l0 l1 l2) := by
  obtain ⟨⟨hf, hlo⟩, ⟨hc1, hc2⟩, hf1, hl1⟩ := K_room K (by omega)
  have hcs : 0 ≤ C.2.2.2.2.1.cells ∧ 0 ≤ C.2.2.2.2.1.slots := ⟨Nat.zero_le _, Nat.zero_le _⟩
  intro n
  induction n with
  | zero => intros; exact s_none (fun _ => rfl)
  | succ n ih =>
    intro l0 l1 l2 h1 h2
    unfold m_X4_forget_L2
    refine s_iload_n (j := 2) (pc2 := 3) X dX4_forget_2 rfl rfl ?_
    refine s_aload_n (j := 0) (pc2 := 4) X dX4_forget_3 rfl rfl ?_
    refine s_getR (pc2 := 7) X dX4_forget_4 rfl fl_RX4_28 rfl (fun v1 => ?_)
    refine s_getI (pc2 := 10) X dX4_forget_7 rfl fl_RX4_68 rfl (fun v2 hv2 => ?_)
    refine s_icge (tgt := 43) X dX4_forget_10 (by decide) rfl h2 hv2 ?_ ?_
    · exact s_ret X dX4_forget_43
    · refine s_aload_n (j := 0) (pc2 := 14) X dX4_forget_13 rfl rfl ?_
      refine s_getR (pc2 := 17) X dX4_forget_14 rfl fl_RX4_22 rfl (fun v3 => ?_)
      refine s_iload_n (j := 2) (pc2 := 18) X dX4_forget_17 rfl rfl ?_
      refine s_bipush (n := 9) (pc2 := 20) X dX4_forget_18 rfl rfl ?_
      refine s_imul (pc2 := 21) X dX4_forget_20 rfl ?_
      refine s_iload_n (j := 1) (pc2 := 22) X dX4_forget_21 rfl rfl ?_
      refine s_iadd (pc2 := 23) X dX4_forget_22 rfl ?_
      refine s_iconst (n := 0) (pc2 := 24) X dX4_forget_23 rfl ?_
      refine s_iast (pc2 := 25) X dX4_forget_24 rfl (inI_c 0 rfl) ?_
      refine s_aload_n (j := 0) (pc2 := 26) X dX4_forget_25 rfl rfl ?_
      refine s_getR (pc2 := 29) X dX4_forget_26 rfl fl_RX4_25 rfl (fun v4 => ?_)
      refine s_iload_n (j := 2) (pc2 := 30) X dX4_forget_29 rfl rfl ?_
      refine s_bipush (n := 9) (pc2 := 32) X dX4_forget_30 rfl rfl ?_
      refine s_imul (pc2 := 33) X dX4_forget_32 rfl ?_
      refine s_iload_n (j := 1) (pc2 := 34) X dX4_forget_33 rfl rfl ?_
      refine s_iadd (pc2 := 35) X dX4_forget_34 rfl ?_
      refine s_iconst (n := 0) (pc2 := 36) X dX4_forget_35 rfl ?_
      refine s_iast (pc2 := 37) X dX4_forget_36 rfl (inI_c 0 rfl) ?_
      refine s_iinc (j := 2) (pc2 := 40) X dX4_forget_37 rfl (by decide) rfl rfl rfl cat1_I (fun w5 hw5 => ?_)
      refine s_goto (pc2 := 2) X dX4_forget_40 (by decide) ?_
      refine s_sub (lv2 := [(0, vR C.1.1 l0), (1, vI l1), (2, vI w5)]) [1, 2, 0] rfl ?_
      exact ih l0 l1 w5 h1 hw5
set_option maxRecDepth 4000 in
set_option maxHeartbeats 20000000 in
theorem z_X4_forget (d : Nat) (hd : 1 ≤ d) {C : hCx} (K : hCtx C.1 C.2.2.1 d 0 0 "forget" C) (X : hOK C cX4_forget RX4 3 none) (l0 : Nat) (l1 : Int) (h1 : inI l1) : hSim C none 0 0 3 0 [(0, vR C.1.1 l0), (1, vI l1)] [] 0 0 (m_X4_forget l0 l1) := by
  obtain ⟨⟨hf, hlo⟩, ⟨hc1, hc2⟩, hf1, hl1⟩ := K_room K (by omega)
  have hcs : 0 ≤ C.2.2.2.2.1.cells ∧ 0 ≤ C.2.2.2.2.1.slots := ⟨Nat.zero_le _, Nat.zero_le _⟩
  unfold m_X4_forget
  refine s_iconst (n := 0) (pc2 := 1) X dX4_forget_0 rfl ?_
  refine s_istore_n (pc2 := 2) X dX4_forget_1 rfl (by decide) rfl rfl cat1_I (inI_c 0 rfl) (fun w1 hw1 => ?_)
  refine s_sub (lv2 := [(0, vR C.1.1 l0), (1, vI l1), (2, vI w1)]) [1, 2, 0] rfl ?_
  exact z_X4_forget_L2 d hd K X 1000000000 l0 l1 w1 h1 hw1
theorem c_X4_forget (d : Nat) (hd : 1 ≤ d) (G : hG) (l : Launch) (l0 : Nat) (l1 : Int) (h1 : inI l1) : hMet G l yX4_forget cX4_forget 3 none d 0 0 [vR G.1 l0, vI l1] (m_X4_forget l0 l1) := by
  refine hMet.of (lv := [(0, vR G.1 l0), (1, vI l1)]) (by decide +kernel) (by simp [lg_sl, vR_cat, vI_cat, vL_cat, vS_cat2, vT_cat2]) (by simp [lv_args, vR_cat, vI_cat, vL_cat, vS_cat2, vT_cat2]) (fun C K X => ?_)
  obtain ⟨rfl, rfl, K⟩ := K
  exact z_X4_forget d hd ⟨rfl, rfl, K⟩ X l0 l1 h1
def m_X4_endDay_L89 (k4 : Nat → Int → Int → hM) (l0 : Nat) (l1 : Int) (l2 : Int) : hM :=
  hlet (w32 (l2 + 1)) fun (w1 : Int) =>
  k4 l0 l1 w1
def m_X4_endDay_L4 : Nat → Nat → Int → Int → hM
  | 0, _, _, _ => hfail
  | n + 1, l0, l1, l2 =>
    hgR 4 l0 0 fun v1 =>
  hgI 7 v1 10 fun v2 =>
  hif (l2 ≥ v2) (
hgI 4 l0 1 fun v3 =>
  hcall (m_J9_min_7cf53 ((w32 (v3 + 1))) 999) fun v4 =>
  hpI 4 l0 1 v4 <|
  hret l1) (
hgR 4 l0 0 fun v5 =>
  hgR 7 v5 11 fun v6 =>
  haI 20 v6 l2 fun v7 =>
  hlet v7 fun (w8 : Int) =>
  hgR 4 l0 0 fun v9 =>
  hgR 7 v9 13 fun v10 =>
  haI 20 v10 l2 fun v11 =>
  hgI 4 l0 1 fun v12 =>
  hif (v11 ≠ v12) (
m_X4_endDay_L89 (m_X4_endDay_L4 n) l0 l1 l2) (
hgR 4 l0 2 fun v13 =>
  haI 20 v13 w8 fun v14 =>
  hgR 4 l0 0 fun v15 =>
  hgR 7 v15 12 fun v16 =>
  haI 20 v16 l2 fun v17 =>
  hif (v14 ≠ v17) (
m_X4_endDay_L89 (m_X4_endDay_L4 n) l0 l1 l2) (
hgR 4 l0 3 fun v18 =>
  haI 20 v18 w8 fun v19 =>
  hgR 4 l0 0 fun v20 =>
  hgR 7 v20 14 fun v21 =>
  haI 20 v21 l2 fun v22 =>
  hsI 20 v18 w8 ((w32 (v19 + v22))) <|
  hgR 4 l0 0 fun v23 =>
  hgR 7 v23 14 fun v24 =>
  haI 20 v24 l2 fun v25 =>
  hlet ((w32 (l1 + v25))) fun (w26 : Int) =>
  m_X4_endDay_L89 (m_X4_endDay_L4 n) l0 w26 l2)))
def m_X4_endDay (l0 : Nat) : hM :=
  hlet (0 : Int) fun (w1 : Int) =>
  hlet (0 : Int) fun (w2 : Int) =>
  m_X4_endDay_L4 1000000000 l0 w1 w2
set_option maxRecDepth 4000 in
theorem z_X4_endDay_L89 (d : Nat) (hd : 2 ≤ d) {C : hCx} (K : hCtx C.1 C.2.2.1 d 0 0 "endDay" C) (X : hOK C cX4_endDay RX4 4 (some .int)) (k4 : Nat → Int → Int → hM) (hk4 : ∀ (l0 : Nat) (l1 : Int) (l2 : Int), inI l1 → inI l2 → hSim C (some .int) 0 0 4 4 [(0, vR C.1.1 l0), (1, vI l1), (2, vI l2)] [] 0 0 (k4 l0 l1 l2)) (l0 : Nat) (l1 : Int) (l2 : Int) (h1 : inI l1) (h2 : inI l2) : hSim C (some .int) 0 0 4 89 [(0, vR C.1.1 l0), (1, vI l1), (2, vI l2)] [] 0 0 (m_X4_endDay_L89 k4 l0 l1 l2) := by
  obtain ⟨⟨hf, hlo⟩, ⟨hc1, hc2⟩, hf1, hl1⟩ := K_room K (by omega)
  have hcs : 0 ≤ C.2.2.2.2.1.cells ∧ 0 ≤ C.2.2.2.2.1.slots := ⟨Nat.zero_le _, Nat.zero_le _⟩
  unfold m_X4_endDay_L89
  refine s_iinc (j := 2) (pc2 := 92) X dX4_endDay_89 rfl (by decide) rfl rfl rfl cat1_I (fun w1 hw1 => ?_)
  refine s_goto (pc2 := 4) X dX4_endDay_92 (by decide) ?_
  refine s_sub (lv2 := [(0, vR C.1.1 l0), (1, vI l1), (2, vI w1)]) [1, 2, 0] rfl ?_
  exact hk4 l0 l1 w1 h1 hw1
set_option maxRecDepth 4000 in
theorem z_X4_endDay_L4 (d : Nat) (hd : 2 ≤ d) {C : hCx} (K : hCtx C.1 C.2.2.1 d 0 0 "endDay" C) (X : hOK C cX4_endDay RX4 4 (some .int)) : ∀ (n : Nat) (l0 : Nat) (l1 : Int) (l2 : Int) (h1 : inI l1) (h2 : inI l2), hSim C (some .int) 0 0 4 4 [(0, vR C.1.1 l0), (1, vI l1), (2, vI l2)] [] 0 0 (m_X4_endDay_L4 n l0 l1 l2) := by
  obtain ⟨⟨hf, hlo⟩, ⟨hc1, hc2⟩, hf1, hl1⟩ := K_room K (by omega)
  have hcs : 0 ≤ C.2.2.2.2.1.cells ∧ 0 ≤ C.2.2.2.2.1.slots := ⟨Nat.zero_le _, Nat.zero_le _⟩
  intro n
  induction n with
  | zero => intros; exact s_none (fun _ => rfl)
  | succ n ih =>
    intro l0 l1 l2 h1 h2
    unfold m_X4_endDay_L4
    refine s_iload_n (j := 2) (pc2 := 5) X dX4_endDay_4 rfl rfl ?_
    refine s_aload_n (j := 0) (pc2 := 6) X dX4_endDay_5 rfl rfl ?_
    refine s_getR (pc2 := 9) X dX4_endDay_6 rfl fl_RX4_28 rfl (fun v1 => ?_)
    refine s_getI (pc2 := 12) X dX4_endDay_9 rfl fl_RX4_74 rfl (fun v2 hv2 => ?_)
    refine s_icge (tgt := 95) X dX4_endDay_12 (by decide) rfl h2 hv2 ?_ ?_
    · refine s_aload_n (j := 0) (pc2 := 96) X dX4_endDay_95 rfl rfl ?_
      refine s_aload_n (j := 0) (pc2 := 97) X dX4_endDay_96 rfl rfl ?_
      refine s_getI (pc2 := 100) X dX4_endDay_97 rfl fl_RX4_9 rfl (fun v3 hv3 => ?_)
      refine s_iconst (n := 1) (pc2 := 101) X dX4_endDay_100 rfl ?_
      refine s_iadd (pc2 := 102) X dX4_endDay_101 rfl ?_
      refine s_sipush (n := 999) (pc2 := 105) X dX4_endDay_102 rfl rfl ?_
      refine s_callSI (d2 := d - 1) (As := [vI ((w32 (v3 + 1))), vI 999]) (st := [vR C.1.1 l0]) (pc2 := 108) X dX4_endDay_105 rfl ml_RX4_89 sm_J9_min_7cf53 (c_J9_min_7cf53 (d - 1) (by omega) C.1 C.2.2.1 ((w32 (v3 + 1))) 999 (w32_in _) (inI_c 999 rfl)) hy_J9_min_7cf53 rfl rfl hf hlo (st_room (Nat.le_of_ble_eq_true rfl)) hcs (fun v4 hv4 => ?_)
      refine s_putI (pc2 := 111) X dX4_endDay_108 rfl fl_RX4_9 (Or.inl rfl) rfl hv4 ?_
      refine s_iload_n (j := 1) (pc2 := 112) X dX4_endDay_111 rfl rfl ?_
      exact s_iret X dX4_endDay_112 h1
    · refine s_aload_n (j := 0) (pc2 := 16) X dX4_endDay_15 rfl rfl ?_
      refine s_getR (pc2 := 19) X dX4_endDay_16 rfl fl_RX4_28 rfl (fun v5 => ?_)
      refine s_getR (pc2 := 22) X dX4_endDay_19 rfl fl_RX4_77 rfl (fun v6 => ?_)
      refine s_iload_n (j := 2) (pc2 := 23) X dX4_endDay_22 rfl rfl ?_
      refine s_iald (pc2 := 24) X dX4_endDay_23 rfl (fun v7 hv7 => ?_)
      refine s_istore_n (pc2 := 25) X dX4_endDay_24 rfl (by decide) rfl rfl cat1_I hv7 (fun w8 hw8 => ?_)
      refine s_aload_n (j := 1) (pc2 := 26) X dX4_endDay_25 rfl rfl ?_
      refine s_getR (pc2 := 29) X dX4_endDay_26 rfl fl_RX4_28 rfl (fun v9 => ?_)
      refine s_getR (pc2 := 32) X dX4_endDay_29 rfl fl_RX4_80 rfl (fun v10 => ?_)
      refine s_iload_n (j := 3) (pc2 := 33) X dX4_endDay_32 rfl rfl ?_
      refine s_iald (pc2 := 34) X dX4_endDay_33 rfl (fun v11 hv11 => ?_)
      refine s_aload_n (j := 1) (pc2 := 35) X dX4_endDay_34 rfl rfl ?_
      refine s_getI (pc2 := 38) X dX4_endDay_35 rfl fl_RX4_9 rfl (fun v12 hv12 => ?_)
      refine s_icne (tgt := 89) X dX4_endDay_38 (by decide) rfl hv11 hv12 ?_ ?_
      · refine s_sub (lv2 := [(0, vR C.1.1 l0), (1, vI l1), (2, vI l2)]) [1, 2, 3] rfl ?_
        exact z_X4_endDay_L89 d hd K X (m_X4_endDay_L4 n) ih l0 l1 l2 h1 h2
      · refine s_aload_n (j := 1) (pc2 := 42) X dX4_endDay_41 rfl rfl ?_
        refine s_getR (pc2 := 45) X dX4_endDay_42 rfl fl_RX4_15 rfl (fun v13 => ?_)
        refine s_iload_n (j := 0) (pc2 := 46) X dX4_endDay_45 rfl rfl ?_
        refine s_iald (pc2 := 47) X dX4_endDay_46 rfl (fun v14 hv14 => ?_)
        refine s_aload_n (j := 1) (pc2 := 48) X dX4_endDay_47 rfl rfl ?_
        refine s_getR (pc2 := 51) X dX4_endDay_48 rfl fl_RX4_28 rfl (fun v15 => ?_)
        refine s_getR (pc2 := 54) X dX4_endDay_51 rfl fl_RX4_83 rfl (fun v16 => ?_)
        refine s_iload_n (j := 3) (pc2 := 55) X dX4_endDay_54 rfl rfl ?_
        refine s_iald (pc2 := 56) X dX4_endDay_55 rfl (fun v17 hv17 => ?_)
        refine s_icne (tgt := 89) X dX4_endDay_56 (by decide) rfl hv14 hv17 ?_ ?_
        · refine s_sub (lv2 := [(0, vR C.1.1 l0), (1, vI l1), (2, vI l2)]) [1, 2, 3] rfl ?_
          exact z_X4_endDay_L89 d hd K X (m_X4_endDay_L4 n) ih l0 l1 l2 h1 h2
        · refine s_aload_n (j := 1) (pc2 := 60) X dX4_endDay_59 rfl rfl ?_
          refine s_getR (pc2 := 63) X dX4_endDay_60 rfl fl_RX4_19 rfl (fun v18 => ?_)
          refine s_iload_n (j := 0) (pc2 := 64) X dX4_endDay_63 rfl rfl ?_
          refine s_dup2 (pc2 := 65) X dX4_endDay_64 rfl rfl (vR_cat _ _) ?_
          refine s_iald (pc2 := 66) X dX4_endDay_65 rfl (fun v19 hv19 => ?_)
          refine s_aload_n (j := 1) (pc2 := 67) X dX4_endDay_66 rfl rfl ?_
          refine s_getR (pc2 := 70) X dX4_endDay_67 rfl fl_RX4_28 rfl (fun v20 => ?_)
          refine s_getR (pc2 := 73) X dX4_endDay_70 rfl fl_RX4_86 rfl (fun v21 => ?_)
          refine s_iload_n (j := 3) (pc2 := 74) X dX4_endDay_73 rfl rfl ?_
          refine s_iald (pc2 := 75) X dX4_endDay_74 rfl (fun v22 hv22 => ?_)
          refine s_iadd (pc2 := 76) X dX4_endDay_75 rfl ?_
          refine s_iast (pc2 := 77) X dX4_endDay_76 rfl (w32_in _) ?_
          refine s_iload_n (j := 2) (pc2 := 78) X dX4_endDay_77 rfl rfl ?_
          refine s_aload_n (j := 1) (pc2 := 79) X dX4_endDay_78 rfl rfl ?_
          refine s_getR (pc2 := 82) X dX4_endDay_79 rfl fl_RX4_28 rfl (fun v23 => ?_)
          refine s_getR (pc2 := 85) X dX4_endDay_82 rfl fl_RX4_86 rfl (fun v24 => ?_)
          refine s_iload_n (j := 3) (pc2 := 86) X dX4_endDay_85 rfl rfl ?_
          refine s_iald (pc2 := 87) X dX4_endDay_86 rfl (fun v25 hv25 => ?_)
          refine s_iadd (pc2 := 88) X dX4_endDay_87 rfl ?_
          refine s_istore_n (pc2 := 89) X dX4_endDay_88 rfl (by decide) rfl rfl cat1_R (w32_in _) (fun w26 hw26 => ?_)
          refine s_sub (lv2 := [(0, vR C.1.1 l0), (1, vI w26), (2, vI l2)]) [2, 0, 3] rfl ?_
          exact z_X4_endDay_L89 d hd K X (m_X4_endDay_L4 n) ih l0 w26 l2 hw26 h2
set_option maxRecDepth 4000 in
set_option maxHeartbeats 20000000 in
theorem z_X4_endDay (d : Nat) (hd : 2 ≤ d) {C : hCx} (K : hCtx C.1 C.2.2.1 d 0 0 "endDay" C) (X : hOK C cX4_endDay RX4 4 (some .int)) (l0 : Nat) : hSim C (some .int) 0 0 4 0 [(0, vR C.1.1 l0)] [] 0 0 (m_X4_endDay l0) := by
  obtain ⟨⟨hf, hlo⟩, ⟨hc1, hc2⟩, hf1, hl1⟩ := K_room K (by omega)
  have hcs : 0 ≤ C.2.2.2.2.1.cells ∧ 0 ≤ C.2.2.2.2.1.slots := ⟨Nat.zero_le _, Nat.zero_le _⟩
  unfold m_X4_endDay
  refine s_iconst (n := 0) (pc2 := 1) X dX4_endDay_0 rfl ?_
  refine s_istore_n (pc2 := 2) X dX4_endDay_1 rfl (by decide) rfl rfl cat1_R (inI_c 0 rfl) (fun w1 hw1 => ?_)
  refine s_iconst (n := 0) (pc2 := 3) X dX4_endDay_2 rfl ?_
  refine s_istore_n (pc2 := 4) X dX4_endDay_3 rfl (by decide) rfl rfl cat1_I (inI_c 0 rfl) (fun w2 hw2 => ?_)
  refine s_sub (lv2 := [(0, vR C.1.1 l0), (1, vI w1), (2, vI w2)]) [2, 1, 0] rfl ?_
  exact z_X4_endDay_L4 d hd K X 1000000000 l0 w1 w2 hw1 hw2
theorem c_X4_endDay (d : Nat) (hd : 2 ≤ d) (G : hG) (l : Launch) (l0 : Nat) : hMet G l yX4_endDay cX4_endDay 4 (some .int) d 0 0 [vR G.1 l0] (m_X4_endDay l0) := by
  refine hMet.of (lv := [(0, vR G.1 l0)]) (by decide +kernel) (by simp [lg_sl, vR_cat, vI_cat, vL_cat, vS_cat2, vT_cat2]) (by simp [lv_args, vR_cat, vI_cat, vL_cat, vS_cat2, vT_cat2]) (fun C K X => ?_)
  obtain ⟨rfl, rfl, K⟩ := K
  exact z_X4_endDay d hd ⟨rfl, rfl, K⟩ X l0
def m_X4_isFrosty_L47 (k2 : Nat → Int → hM) (l0 : Nat) (l1 : Int) : hM :=
  hlet (w32 (l1 + 1)) fun (w1 : Int) =>
  k2 l0 w1
def m_X4_isFrosty_L2 : Nat → Nat → Int → hM
  | 0, _, _ => hfail
  | n + 1, l0, l1 =>
    hgR 4 l0 0 fun v1 =>
  hgI 7 v1 4 fun v2 =>
  hif (l1 ≥ v2) (
hretZ 0) (
hgI 4 l0 1 fun v3 =>
  hgR 4 l0 0 fun v4 =>
  hgR 7 v4 5 fun v5 =>
  haI 20 v5 l1 fun v6 =>
  hif (v3 < v6) (
m_X4_isFrosty_L47 (m_X4_isFrosty_L2 n) l0 l1) (
hgI 4 l0 1 fun v7 =>
  hgR 4 l0 0 fun v8 =>
  hgR 7 v8 6 fun v9 =>
  haI 20 v9 l1 fun v10 =>
  hif (v7 > v10) (
m_X4_isFrosty_L47 (m_X4_isFrosty_L2 n) l0 l1) (
hretZ 1)))
def m_X4_isFrosty (l0 : Nat) : hM :=
  hlet (0 : Int) fun (w1 : Int) =>
  m_X4_isFrosty_L2 1000000000 l0 w1
set_option maxRecDepth 4000 in
theorem z_X4_isFrosty_L47 (d : Nat) (hd : 1 ≤ d) {C : hCx} (K : hCtx C.1 C.2.2.1 d 0 0 "isFrosty" C) (X : hOK C cX4_isFrosty RX4 2 (some .boolean)) (k2 : Nat → Int → hM) (hk2 : ∀ (l0 : Nat) (l1 : Int), inI l1 → hSim C (some .boolean) 0 0 2 2 [(0, vR C.1.1 l0), (1, vI l1)] [] 0 0 (k2 l0 l1)) (l0 : Nat) (l1 : Int) (h1 : inI l1) : hSim C (some .boolean) 0 0 2 47 [(0, vR C.1.1 l0), (1, vI l1)] [] 0 0 (m_X4_isFrosty_L47 k2 l0 l1) := by
  obtain ⟨⟨hf, hlo⟩, ⟨hc1, hc2⟩, hf1, hl1⟩ := K_room K (by omega)
  have hcs : 0 ≤ C.2.2.2.2.1.cells ∧ 0 ≤ C.2.2.2.2.1.slots := ⟨Nat.zero_le _, Nat.zero_le _⟩
  unfold m_X4_isFrosty_L47
  refine s_iinc (j := 1) (pc2 := 50) X dX4_isFrosty_47 rfl (by decide) rfl rfl rfl cat1_R (fun w1 hw1 => ?_)
  refine s_goto (pc2 := 2) X dX4_isFrosty_50 (by decide) ?_
  refine s_sub (lv2 := [(0, vR C.1.1 l0), (1, vI w1)]) [1, 0] rfl ?_
  exact hk2 l0 w1 hw1
set_option maxRecDepth 4000 in
theorem z_X4_isFrosty_L2 (d : Nat) (hd : 1 ≤ d) {C : hCx} (K : hCtx C.1 C.2.2.1 d 0 0 "isFrosty" C) (X : hOK C cX4_isFrosty RX4 2 (some .boolean)) : ∀ (n : Nat) (l0 : Nat) (l1 : Int) (h1 : inI l1), hSim C (some .boolean) 0 0 2 2 [(0, vR C.1.1 l0), (1, vI l1)] [] 0 0 (m_X4_isFrosty_L2 n l0 l1) := by
  obtain ⟨⟨hf, hlo⟩, ⟨hc1, hc2⟩, hf1, hl1⟩ := K_room K (by omega)
  have hcs : 0 ≤ C.2.2.2.2.1.cells ∧ 0 ≤ C.2.2.2.2.1.slots := ⟨Nat.zero_le _, Nat.zero_le _⟩
  intro n
  induction n with
  | zero => intros; exact s_none (fun _ => rfl)
  | succ n ih =>
    intro l0 l1 h1
    unfold m_X4_isFrosty_L2
    refine s_iload_n (j := 1) (pc2 := 3) X dX4_isFrosty_2 rfl rfl ?_
    refine s_aload_n (j := 0) (pc2 := 4) X dX4_isFrosty_3 rfl rfl ?_
    refine s_getR (pc2 := 7) X dX4_isFrosty_4 rfl fl_RX4_28 rfl (fun v1 => ?_)
    refine s_getI (pc2 := 10) X dX4_isFrosty_7 rfl fl_RX4_94 rfl (fun v2 hv2 => ?_)
    refine s_icge (tgt := 53) X dX4_isFrosty_10 (by decide) rfl h1 hv2 ?_ ?_
    · refine s_iconst (n := 0) (pc2 := 54) X dX4_isFrosty_53 rfl ?_
      exact s_zret X dX4_isFrosty_54
    · refine s_aload_n (j := 0) (pc2 := 14) X dX4_isFrosty_13 rfl rfl ?_
      refine s_getI (pc2 := 17) X dX4_isFrosty_14 rfl fl_RX4_9 rfl (fun v3 hv3 => ?_)
      refine s_aload_n (j := 0) (pc2 := 18) X dX4_isFrosty_17 rfl rfl ?_
      refine s_getR (pc2 := 21) X dX4_isFrosty_18 rfl fl_RX4_28 rfl (fun v4 => ?_)
      refine s_getR (pc2 := 24) X dX4_isFrosty_21 rfl fl_RX4_97 rfl (fun v5 => ?_)
      refine s_iload_n (j := 1) (pc2 := 25) X dX4_isFrosty_24 rfl rfl ?_
      refine s_iald (pc2 := 26) X dX4_isFrosty_25 rfl (fun v6 hv6 => ?_)
      refine s_iclt (tgt := 47) X dX4_isFrosty_26 (by decide) rfl hv3 hv6 ?_ ?_
      · exact z_X4_isFrosty_L47 d hd K X (m_X4_isFrosty_L2 n) ih l0 l1 h1
      · refine s_aload_n (j := 0) (pc2 := 30) X dX4_isFrosty_29 rfl rfl ?_
        refine s_getI (pc2 := 33) X dX4_isFrosty_30 rfl fl_RX4_9 rfl (fun v7 hv7 => ?_)
        refine s_aload_n (j := 0) (pc2 := 34) X dX4_isFrosty_33 rfl rfl ?_
        refine s_getR (pc2 := 37) X dX4_isFrosty_34 rfl fl_RX4_28 rfl (fun v8 => ?_)
        refine s_getR (pc2 := 40) X dX4_isFrosty_37 rfl fl_RX4_100 rfl (fun v9 => ?_)
        refine s_iload_n (j := 1) (pc2 := 41) X dX4_isFrosty_40 rfl rfl ?_
        refine s_iald (pc2 := 42) X dX4_isFrosty_41 rfl (fun v10 hv10 => ?_)
        refine s_icgt (tgt := 47) X dX4_isFrosty_42 (by decide) rfl hv7 hv10 ?_ ?_
        · exact z_X4_isFrosty_L47 d hd K X (m_X4_isFrosty_L2 n) ih l0 l1 h1
        · refine s_iconst (n := 1) (pc2 := 46) X dX4_isFrosty_45 rfl ?_
          exact s_zret X dX4_isFrosty_46
set_option maxRecDepth 4000 in
set_option maxHeartbeats 20000000 in
theorem z_X4_isFrosty (d : Nat) (hd : 1 ≤ d) {C : hCx} (K : hCtx C.1 C.2.2.1 d 0 0 "isFrosty" C) (X : hOK C cX4_isFrosty RX4 2 (some .boolean)) (l0 : Nat) : hSim C (some .boolean) 0 0 2 0 [(0, vR C.1.1 l0)] [] 0 0 (m_X4_isFrosty l0) := by
  obtain ⟨⟨hf, hlo⟩, ⟨hc1, hc2⟩, hf1, hl1⟩ := K_room K (by omega)
  have hcs : 0 ≤ C.2.2.2.2.1.cells ∧ 0 ≤ C.2.2.2.2.1.slots := ⟨Nat.zero_le _, Nat.zero_le _⟩
  unfold m_X4_isFrosty
  refine s_iconst (n := 0) (pc2 := 1) X dX4_isFrosty_0 rfl ?_
  refine s_istore_n (pc2 := 2) X dX4_isFrosty_1 rfl (by decide) rfl rfl cat1_R (inI_c 0 rfl) (fun w1 hw1 => ?_)
  refine s_sub (lv2 := [(0, vR C.1.1 l0), (1, vI w1)]) [1, 0] rfl ?_
  exact z_X4_isFrosty_L2 d hd K X 1000000000 l0 w1 hw1
theorem c_X4_isFrosty (d : Nat) (hd : 1 ≤ d) (G : hG) (l : Launch) (l0 : Nat) : hMet G l yX4_isFrosty cX4_isFrosty 2 (some .boolean) d 0 0 [vR G.1 l0] (m_X4_isFrosty l0) := by
  refine hMet.of (lv := [(0, vR G.1 l0)]) (by decide +kernel) (by simp [lg_sl, vR_cat, vI_cat, vL_cat, vS_cat2, vT_cat2]) (by simp [lv_args, vR_cat, vI_cat, vL_cat, vS_cat2, vT_cat2]) (fun C K X => ?_)
  obtain ⟨rfl, rfl, K⟩ := K
  exact z_X4_isFrosty d hd ⟨rfl, rfl, K⟩ X l0
def m_X4_paidToAll_L4 : Nat → Nat → Int → Int → hM
  | 0, _, _, _ => hfail
  | n + 1, l0, l1, l2 =>
    hgR 4 l0 0 fun v1 =>
  hgI 7 v1 7 fun v2 =>
  hif (l2 ≥ v2) (
hret l1) (
hgR 4 l0 3 fun v3 =>
  haI 20 v3 l2 fun v4 =>
  hlet ((w32 (l1 + v4))) fun (w5 : Int) =>
  hlet (w32 (l2 + 1)) fun (w6 : Int) =>
  m_X4_paidToAll_L4 n l0 w5 w6)
def m_X4_paidToAll (l0 : Nat) : hM :=
  hlet (0 : Int) fun (w1 : Int) =>
  hlet (0 : Int) fun (w2 : Int) =>
  m_X4_paidToAll_L4 1000000000 l0 w1 w2
set_option maxRecDepth 4000 in
theorem z_X4_paidToAll_L4 (d : Nat) (hd : 1 ≤ d) {C : hCx} (K : hCtx C.1 C.2.2.1 d 0 0 "paidToAll" C) (X : hOK C cX4_paidToAll RX4 3 (some .int)) : ∀ (n : Nat) (l0 : Nat) (l1 : Int) (l2 : Int) (h1 : inI l1) (h2 : inI l2), hSim C (some .int) 0 0 3 4 [(0, vR C.1.1 l0), (1, vI l1), (2, vI l2)] [] 0 0 (m_X4_paidToAll_L4 n l0 l1 l2) := by
  obtain ⟨⟨hf, hlo⟩, ⟨hc1, hc2⟩, hf1, hl1⟩ := K_room K (by omega)
  have hcs : 0 ≤ C.2.2.2.2.1.cells ∧ 0 ≤ C.2.2.2.2.1.slots := ⟨Nat.zero_le _, Nat.zero_le _⟩
  intro n
  induction n with
  | zero => intros; exact s_none (fun _ => rfl)
  | succ n ih =>
    intro l0 l1 l2 h1 h2
    unfold m_X4_paidToAll_L4
    refine s_iload_n (j := 2) (pc2 := 5) X dX4_paidToAll_4 rfl rfl ?_
    refine s_aload_n (j := 0) (pc2 := 6) X dX4_paidToAll_5 rfl rfl ?_
    refine s_getR (pc2 := 9) X dX4_paidToAll_6 rfl fl_RX4_28 rfl (fun v1 => ?_)
    refine s_getI (pc2 := 12) X dX4_paidToAll_9 rfl fl_RX4_68 rfl (fun v2 hv2 => ?_)
    refine s_icge (tgt := 30) X dX4_paidToAll_12 (by decide) rfl h2 hv2 ?_ ?_
    · refine s_iload_n (j := 1) (pc2 := 31) X dX4_paidToAll_30 rfl rfl ?_
      exact s_iret X dX4_paidToAll_31 h1
    · refine s_iload_n (j := 1) (pc2 := 16) X dX4_paidToAll_15 rfl rfl ?_
      refine s_aload_n (j := 0) (pc2 := 17) X dX4_paidToAll_16 rfl rfl ?_
      refine s_getR (pc2 := 20) X dX4_paidToAll_17 rfl fl_RX4_19 rfl (fun v3 => ?_)
      refine s_iload_n (j := 2) (pc2 := 21) X dX4_paidToAll_20 rfl rfl ?_
      refine s_iald (pc2 := 22) X dX4_paidToAll_21 rfl (fun v4 hv4 => ?_)
      refine s_iadd (pc2 := 23) X dX4_paidToAll_22 rfl ?_
      refine s_istore_n (pc2 := 24) X dX4_paidToAll_23 rfl (by decide) rfl rfl cat1_R (w32_in _) (fun w5 hw5 => ?_)
      refine s_iinc (j := 2) (pc2 := 27) X dX4_paidToAll_24 rfl (by decide) rfl rfl rfl cat1_I (fun w6 hw6 => ?_)
      refine s_goto (pc2 := 4) X dX4_paidToAll_27 (by decide) ?_
      refine s_sub (lv2 := [(0, vR C.1.1 l0), (1, vI w5), (2, vI w6)]) [2, 1, 0] rfl ?_
      exact ih l0 w5 w6 hw5 hw6
set_option maxRecDepth 4000 in
set_option maxHeartbeats 20000000 in
theorem z_X4_paidToAll (d : Nat) (hd : 1 ≤ d) {C : hCx} (K : hCtx C.1 C.2.2.1 d 0 0 "paidToAll" C) (X : hOK C cX4_paidToAll RX4 3 (some .int)) (l0 : Nat) : hSim C (some .int) 0 0 3 0 [(0, vR C.1.1 l0)] [] 0 0 (m_X4_paidToAll l0) := by
  obtain ⟨⟨hf, hlo⟩, ⟨hc1, hc2⟩, hf1, hl1⟩ := K_room K (by omega)
  have hcs : 0 ≤ C.2.2.2.2.1.cells ∧ 0 ≤ C.2.2.2.2.1.slots := ⟨Nat.zero_le _, Nat.zero_le _⟩
  unfold m_X4_paidToAll
  refine s_iconst (n := 0) (pc2 := 1) X dX4_paidToAll_0 rfl ?_
  refine s_istore_n (pc2 := 2) X dX4_paidToAll_1 rfl (by decide) rfl rfl cat1_R (inI_c 0 rfl) (fun w1 hw1 => ?_)
  refine s_iconst (n := 0) (pc2 := 3) X dX4_paidToAll_2 rfl ?_
  refine s_istore_n (pc2 := 4) X dX4_paidToAll_3 rfl (by decide) rfl rfl cat1_I (inI_c 0 rfl) (fun w2 hw2 => ?_)
  refine s_sub (lv2 := [(0, vR C.1.1 l0), (1, vI w1), (2, vI w2)]) [2, 1, 0] rfl ?_
  exact z_X4_paidToAll_L4 d hd K X 1000000000 l0 w1 w2 hw1 hw2
theorem c_X4_paidToAll (d : Nat) (hd : 1 ≤ d) (G : hG) (l : Launch) (l0 : Nat) : hMet G l yX4_paidToAll cX4_paidToAll 3 (some .int) d 0 0 [vR G.1 l0] (m_X4_paidToAll l0) := by
  refine hMet.of (lv := [(0, vR G.1 l0)]) (by decide +kernel) (by simp [lg_sl, vR_cat, vI_cat, vL_cat, vS_cat2, vT_cat2]) (by simp [lv_args, vR_cat, vI_cat, vL_cat, vS_cat2, vT_cat2]) (fun C K X => ?_)
  obtain ⟨rfl, rfl, K⟩ := K
  exact z_X4_paidToAll d hd ⟨rfl, rfl, K⟩ X l0
def m_X4_whoIsHome_L39 (k4 : Nat → Int → Int → hM) (l0 : Nat) (l1 : Int) (l2 : Int) : hM :=
  hlet (w32 (l2 + 1)) fun (w1 : Int) =>
  k4 l0 l1 w1
def m_X4_whoIsHome_L4 : Nat → Nat → Int → Int → hM
  | 0, _, _, _ => hfail
  | n + 1, l0, l1, l2 =>
    hgR 4 l0 0 fun v1 =>
  hgI 7 v1 7 fun v2 =>
  hif (l2 ≥ v2) (
hret l1) (
hgR 4 l0 2 fun v3 =>
  haI 20 v3 l2 fun v4 =>
  hgR 4 l0 0 fun v5 =>
  hgR 7 v5 8 fun v6 =>
  haI 20 v6 l2 fun v7 =>
  hif (v4 ≠ v7) (
m_X4_whoIsHome_L39 (m_X4_whoIsHome_L4 n) l0 l1 l2) (
hlet ((iorZ l1 ((ishlZ 1 l2)))) fun (w8 : Int) =>
  m_X4_whoIsHome_L39 (m_X4_whoIsHome_L4 n) l0 w8 l2))
def m_X4_whoIsHome (l0 : Nat) : hM :=
  hlet (0 : Int) fun (w1 : Int) =>
  hlet (0 : Int) fun (w2 : Int) =>
  m_X4_whoIsHome_L4 1000000000 l0 w1 w2
set_option maxRecDepth 4000 in
theorem z_X4_whoIsHome_L39 (d : Nat) (hd : 1 ≤ d) {C : hCx} (K : hCtx C.1 C.2.2.1 d 0 0 "whoIsHome" C) (X : hOK C cX4_whoIsHome RX4 3 (some .int)) (k4 : Nat → Int → Int → hM) (hk4 : ∀ (l0 : Nat) (l1 : Int) (l2 : Int), inI l1 → inI l2 → hSim C (some .int) 0 0 3 4 [(0, vR C.1.1 l0), (1, vI l1), (2, vI l2)] [] 0 0 (k4 l0 l1 l2)) (l0 : Nat) (l1 : Int) (l2 : Int) (h1 : inI l1) (h2 : inI l2) : hSim C (some .int) 0 0 3 39 [(0, vR C.1.1 l0), (1, vI l1), (2, vI l2)] [] 0 0 (m_X4_whoIsHome_L39 k4 l0 l1 l2) := by
  obtain ⟨⟨hf, hlo⟩, ⟨hc1, hc2⟩, hf1, hl1⟩ := K_room K (by omega)
  have hcs : 0 ≤ C.2.2.2.2.1.cells ∧ 0 ≤ C.2.2.2.2.1.slots := ⟨Nat.zero_le _, Nat.zero_le _⟩
  unfold m_X4_whoIsHome_L39
  refine s_iinc (j := 2) (pc2 := 42) X dX4_whoIsHome_39 rfl (by decide) rfl rfl rfl cat1_I (fun w1 hw1 => ?_)
  refine s_goto (pc2 := 4) X dX4_whoIsHome_42 (by decide) ?_
  refine s_sub (lv2 := [(0, vR C.1.1 l0), (1, vI l1), (2, vI w1)]) [1, 2, 0] rfl ?_
  exact hk4 l0 l1 w1 h1 hw1
set_option maxRecDepth 4000 in
theorem z_X4_whoIsHome_L4 (d : Nat) (hd : 1 ≤ d) {C : hCx} (K : hCtx C.1 C.2.2.1 d 0 0 "whoIsHome" C) (X : hOK C cX4_whoIsHome RX4 3 (some .int)) : ∀ (n : Nat) (l0 : Nat) (l1 : Int) (l2 : Int) (h1 : inI l1) (h2 : inI l2), hSim C (some .int) 0 0 3 4 [(0, vR C.1.1 l0), (1, vI l1), (2, vI l2)] [] 0 0 (m_X4_whoIsHome_L4 n l0 l1 l2) := by
  obtain ⟨⟨hf, hlo⟩, ⟨hc1, hc2⟩, hf1, hl1⟩ := K_room K (by omega)
  have hcs : 0 ≤ C.2.2.2.2.1.cells ∧ 0 ≤ C.2.2.2.2.1.slots := ⟨Nat.zero_le _, Nat.zero_le _⟩
  intro n
  induction n with
  | zero => intros; exact s_none (fun _ => rfl)
  | succ n ih =>
    intro l0 l1 l2 h1 h2
    unfold m_X4_whoIsHome_L4
    refine s_iload_n (j := 2) (pc2 := 5) X dX4_whoIsHome_4 rfl rfl ?_
    refine s_aload_n (j := 0) (pc2 := 6) X dX4_whoIsHome_5 rfl rfl ?_
    refine s_getR (pc2 := 9) X dX4_whoIsHome_6 rfl fl_RX4_28 rfl (fun v1 => ?_)
    refine s_getI (pc2 := 12) X dX4_whoIsHome_9 rfl fl_RX4_68 rfl (fun v2 hv2 => ?_)
    refine s_icge (tgt := 45) X dX4_whoIsHome_12 (by decide) rfl h2 hv2 ?_ ?_
    · refine s_iload_n (j := 1) (pc2 := 46) X dX4_whoIsHome_45 rfl rfl ?_
      exact s_iret X dX4_whoIsHome_46 h1
    · refine s_aload_n (j := 0) (pc2 := 16) X dX4_whoIsHome_15 rfl rfl ?_
      refine s_getR (pc2 := 19) X dX4_whoIsHome_16 rfl fl_RX4_15 rfl (fun v3 => ?_)
      refine s_iload_n (j := 2) (pc2 := 20) X dX4_whoIsHome_19 rfl rfl ?_
      refine s_iald (pc2 := 21) X dX4_whoIsHome_20 rfl (fun v4 hv4 => ?_)
      refine s_aload_n (j := 0) (pc2 := 22) X dX4_whoIsHome_21 rfl rfl ?_
      refine s_getR (pc2 := 25) X dX4_whoIsHome_22 rfl fl_RX4_28 rfl (fun v5 => ?_)
      refine s_getR (pc2 := 28) X dX4_whoIsHome_25 rfl fl_RX4_32 rfl (fun v6 => ?_)
      refine s_iload_n (j := 2) (pc2 := 29) X dX4_whoIsHome_28 rfl rfl ?_
      refine s_iald (pc2 := 30) X dX4_whoIsHome_29 rfl (fun v7 hv7 => ?_)
      refine s_icne (tgt := 39) X dX4_whoIsHome_30 (by decide) rfl hv4 hv7 ?_ ?_
      · exact z_X4_whoIsHome_L39 d hd K X (m_X4_whoIsHome_L4 n) ih l0 l1 l2 h1 h2
      · refine s_iload_n (j := 1) (pc2 := 34) X dX4_whoIsHome_33 rfl rfl ?_
        refine s_iconst (n := 1) (pc2 := 35) X dX4_whoIsHome_34 rfl ?_
        refine s_iload_n (j := 2) (pc2 := 36) X dX4_whoIsHome_35 rfl rfl ?_
        refine s_ishl (pc2 := 37) X dX4_whoIsHome_36 rfl ?_
        refine s_ior (pc2 := 38) X dX4_whoIsHome_37 rfl ?_
        refine s_istore_n (pc2 := 39) X dX4_whoIsHome_38 rfl (by decide) rfl rfl cat1_R (iorZ_in _ _) (fun w8 hw8 => ?_)
        refine s_sub (lv2 := [(0, vR C.1.1 l0), (1, vI w8), (2, vI l2)]) [1, 0, 2] rfl ?_
        exact z_X4_whoIsHome_L39 d hd K X (m_X4_whoIsHome_L4 n) ih l0 w8 l2 hw8 h2
set_option maxRecDepth 4000 in
set_option maxHeartbeats 20000000 in
theorem z_X4_whoIsHome (d : Nat) (hd : 1 ≤ d) {C : hCx} (K : hCtx C.1 C.2.2.1 d 0 0 "whoIsHome" C) (X : hOK C cX4_whoIsHome RX4 3 (some .int)) (l0 : Nat) : hSim C (some .int) 0 0 3 0 [(0, vR C.1.1 l0)] [] 0 0 (m_X4_whoIsHome l0) := by
  obtain ⟨⟨hf, hlo⟩, ⟨hc1, hc2⟩, hf1, hl1⟩ := K_room K (by omega)
  have hcs : 0 ≤ C.2.2.2.2.1.cells ∧ 0 ≤ C.2.2.2.2.1.slots := ⟨Nat.zero_le _, Nat.zero_le _⟩
  unfold m_X4_whoIsHome
  refine s_iconst (n := 0) (pc2 := 1) X dX4_whoIsHome_0 rfl ?_
  refine s_istore_n (pc2 := 2) X dX4_whoIsHome_1 rfl (by decide) rfl rfl cat1_R (inI_c 0 rfl) (fun w1 hw1 => ?_)
  refine s_iconst (n := 0) (pc2 := 3) X dX4_whoIsHome_2 rfl ?_
  refine s_istore_n (pc2 := 4) X dX4_whoIsHome_3 rfl (by decide) rfl rfl cat1_I (inI_c 0 rfl) (fun w2 hw2 => ?_)
  refine s_sub (lv2 := [(0, vR C.1.1 l0), (1, vI w1), (2, vI w2)]) [2, 1, 0] rfl ?_
  exact z_X4_whoIsHome_L4 d hd K X 1000000000 l0 w1 w2 hw1 hw2
theorem c_X4_whoIsHome (d : Nat) (hd : 1 ≤ d) (G : hG) (l : Launch) (l0 : Nat) : hMet G l yX4_whoIsHome cX4_whoIsHome 3 (some .int) d 0 0 [vR G.1 l0] (m_X4_whoIsHome l0) := by
  refine hMet.of (lv := [(0, vR G.1 l0)]) (by decide +kernel) (by simp [lg_sl, vR_cat, vI_cat, vL_cat, vS_cat2, vT_cat2]) (by simp [lv_args, vR_cat, vI_cat, vL_cat, vS_cat2, vT_cat2]) (fun C K X => ?_)
  obtain ⟨rfl, rfl, K⟩ := K
  exact z_X4_whoIsHome d hd ⟨rfl, rfl, K⟩ X l0
def m_X4_nextWant_L72 (k4 : Nat → Int → Int → Int → hM) (l0 : Nat) (l1 : Int) (l2 : Int) (l3 : Int) : hM :=
  hlet (w32 (l3 + 1)) fun (w1 : Int) =>
  k4 l0 l1 l2 w1
def m_X4_nextWant_L70 (k4 : Nat → Int → Int → Int → hM) (l0 : Nat) (l1 : Int) (l3 : Int) : hM :=
  hlet l3 fun (w1 : Int) =>
  m_X4_nextWant_L72 k4 l0 l1 w1 l3
def m_X4_nextWant_L4 : Nat → Nat → Int → Int → Int → hM
  | 0, _, _, _, _ => hfail
  | n + 1, l0, l1, l2, l3 =>
    hgR 4 l0 0 fun v1 =>
  hgI 7 v1 10 fun v2 =>
  hif (l3 ≥ v2) (
hret l2) (
hgR 4 l0 0 fun v3 =>
  hgR 7 v3 11 fun v4 =>
  haI 20 v4 l3 fun v5 =>
  hif (v5 ≠ l1) (
m_X4_nextWant_L72 (m_X4_nextWant_L4 n) l0 l1 l2 l3) (
hgR 4 l0 0 fun v6 =>
  hgR 7 v6 13 fun v7 =>
  haI 20 v7 l3 fun v8 =>
  hgI 4 l0 1 fun v9 =>
  hif (v8 < v9) (
m_X4_nextWant_L72 (m_X4_nextWant_L4 n) l0 l1 l2 l3) (
hif (l2 = ((-1))) (
m_X4_nextWant_L70 (m_X4_nextWant_L4 n) l0 l1 l3) (
hgR 4 l0 0 fun v10 =>
  hgR 7 v10 13 fun v11 =>
  haI 20 v11 l3 fun v12 =>
  hgR 4 l0 0 fun v13 =>
  hgR 7 v13 13 fun v14 =>
  haI 20 v14 l2 fun v15 =>
  hif (v12 ≥ v15) (
m_X4_nextWant_L72 (m_X4_nextWant_L4 n) l0 l1 l2 l3) (
m_X4_nextWant_L70 (m_X4_nextWant_L4 n) l0 l1 l3)))))
def m_X4_nextWant (l0 : Nat) (l1 : Int) : hM :=
  hlet ((-1) : Int) fun (w1 : Int) =>
  hlet (0 : Int) fun (w2 : Int) =>
  m_X4_nextWant_L4 1000000000 l0 l1 w1 w2
set_option maxRecDepth 4000 in
theorem z_X4_nextWant_L72 (d : Nat) (hd : 1 ≤ d) {C : hCx} (K : hCtx C.1 C.2.2.1 d 0 0 "nextWant" C) (X : hOK C cX4_nextWant RX4 4 (some .int)) (k4 : Nat → Int → Int → Int → hM) (hk4 : ∀ (l0 : Nat) (l1 : Int) (l2 : Int) (l3 : Int), inI l1 → inI l2 → inI l3 → hSim C (some .int) 0 0 4 4 [(0, vR C.1.1 l0), (1, vI l1), (2, vI l2), (3, vI l3)] [] 0 0 (k4 l0 l1 l2 l3)) (l0 : Nat) (l1 : Int) (l2 : Int) (l3 : Int) (h1 : inI l1) (h2 : inI l2) (h3 : inI l3) : hSim C (some .int) 0 0 4 72 [(0, vR C.1.1 l0), (1, vI l1), (2, vI l2), (3, vI l3)] [] 0 0 (m_X4_nextWant_L72 k4 l0 l1 l2 l3) := by
  obtain ⟨⟨hf, hlo⟩, ⟨hc1, hc2⟩, hf1, hl1⟩ := K_room K (by omega)
  have hcs : 0 ≤ C.2.2.2.2.1.cells ∧ 0 ≤ C.2.2.2.2.1.slots := ⟨Nat.zero_le _, Nat.zero_le _⟩
  unfold m_X4_nextWant_L72
  refine s_iinc (j := 3) (pc2 := 75) X dX4_nextWant_72 rfl (by decide) rfl rfl rfl cat1_I (fun w1 hw1 => ?_)
  refine s_goto (pc2 := 4) X dX4_nextWant_75 (by decide) ?_
  refine s_sub (lv2 := [(0, vR C.1.1 l0), (1, vI l1), (2, vI l2), (3, vI w1)]) [1, 2, 3, 0] rfl ?_
  exact hk4 l0 l1 l2 w1 h1 h2 hw1
set_option maxRecDepth 4000 in
theorem z_X4_nextWant_L70 (d : Nat) (hd : 1 ≤ d) {C : hCx} (K : hCtx C.1 C.2.2.1 d 0 0 "nextWant" C) (X : hOK C cX4_nextWant RX4 4 (some .int)) (k4 : Nat → Int → Int → Int → hM) (hk4 : ∀ (l0 : Nat) (l1 : Int) (l2 : Int) (l3 : Int), inI l1 → inI l2 → inI l3 → hSim C (some .int) 0 0 4 4 [(0, vR C.1.1 l0), (1, vI l1), (2, vI l2), (3, vI l3)] [] 0 0 (k4 l0 l1 l2 l3)) (l0 : Nat) (l1 : Int) (l3 : Int) (h1 : inI l1) (h3 : inI l3) : hSim C (some .int) 0 0 4 70 [(0, vR C.1.1 l0), (1, vI l1), (3, vI l3)] [] 0 0 (m_X4_nextWant_L70 k4 l0 l1 l3) := by
  obtain ⟨⟨hf, hlo⟩, ⟨hc1, hc2⟩, hf1, hl1⟩ := K_room K (by omega)
  have hcs : 0 ≤ C.2.2.2.2.1.cells ∧ 0 ≤ C.2.2.2.2.1.slots := ⟨Nat.zero_le _, Nat.zero_le _⟩
  unfold m_X4_nextWant_L70
  refine s_iload_n (j := 2) (pc2 := 71) X dX4_nextWant_70 rfl rfl ?_
  refine s_istore_n (pc2 := 72) X dX4_nextWant_71 rfl (by decide) rfl rfl cat1_I h3 (fun w1 hw1 => ?_)
  refine s_sub (lv2 := [(0, vR C.1.1 l0), (1, vI l1), (2, vI w1), (3, vI l3)]) [1, 2, 0, 3] rfl ?_
  exact z_X4_nextWant_L72 d hd K X k4 hk4 l0 l1 w1 l3 h1 hw1 h3
set_option maxRecDepth 4000 in
theorem z_X4_nextWant_L4 (d : Nat) (hd : 1 ≤ d) {C : hCx} (K : hCtx C.1 C.2.2.1 d 0 0 "nextWant" C) (X : hOK C cX4_nextWant RX4 4 (some .int)) : ∀ (n : Nat) (l0 : Nat) (l1 : Int) (l2 : Int) (l3 : Int) (h1 : inI l1) (h2 : inI l2) (h3 : inI l3), hSim C (some .int) 0 0 4 4 [(0, vR C.1.1 l0), (1, vI l1), (2, vI l2), (3, vI l3)] [] 0 0 (m_X4_nextWant_L4 n l0 l1 l2 l3) := by
  obtain ⟨⟨hf, hlo⟩, ⟨hc1, hc2⟩, hf1, hl1⟩ := K_room K (by omega)
  have hcs : 0 ≤ C.2.2.2.2.1.cells ∧ 0 ≤ C.2.2.2.2.1.slots := ⟨Nat.zero_le _, Nat.zero_le _⟩
  intro n
  induction n with
  | zero => intros; exact s_none (fun _ => rfl)
  | succ n ih =>
    intro l0 l1 l2 l3 h1 h2 h3
    unfold m_X4_nextWant_L4
    refine s_iload_n (j := 3) (pc2 := 5) X dX4_nextWant_4 rfl rfl ?_
    refine s_aload_n (j := 0) (pc2 := 6) X dX4_nextWant_5 rfl rfl ?_
    refine s_getR (pc2 := 9) X dX4_nextWant_6 rfl fl_RX4_28 rfl (fun v1 => ?_)
    refine s_getI (pc2 := 12) X dX4_nextWant_9 rfl fl_RX4_74 rfl (fun v2 hv2 => ?_)
    refine s_icge (tgt := 78) X dX4_nextWant_12 (by decide) rfl h3 hv2 ?_ ?_
    · refine s_iload_n (j := 2) (pc2 := 79) X dX4_nextWant_78 rfl rfl ?_
      exact s_iret X dX4_nextWant_79 h2
    · refine s_aload_n (j := 0) (pc2 := 16) X dX4_nextWant_15 rfl rfl ?_
      refine s_getR (pc2 := 19) X dX4_nextWant_16 rfl fl_RX4_28 rfl (fun v3 => ?_)
      refine s_getR (pc2 := 22) X dX4_nextWant_19 rfl fl_RX4_77 rfl (fun v4 => ?_)
      refine s_iload_n (j := 3) (pc2 := 23) X dX4_nextWant_22 rfl rfl ?_
      refine s_iald (pc2 := 24) X dX4_nextWant_23 rfl (fun v5 hv5 => ?_)
      refine s_iload_n (j := 1) (pc2 := 25) X dX4_nextWant_24 rfl rfl ?_
      refine s_icne (tgt := 72) X dX4_nextWant_25 (by decide) rfl hv5 h1 ?_ ?_
      · exact z_X4_nextWant_L72 d hd K X (m_X4_nextWant_L4 n) ih l0 l1 l2 l3 h1 h2 h3
      · refine s_aload_n (j := 0) (pc2 := 29) X dX4_nextWant_28 rfl rfl ?_
        refine s_getR (pc2 := 32) X dX4_nextWant_29 rfl fl_RX4_28 rfl (fun v6 => ?_)
        refine s_getR (pc2 := 35) X dX4_nextWant_32 rfl fl_RX4_80 rfl (fun v7 => ?_)
        refine s_iload_n (j := 3) (pc2 := 36) X dX4_nextWant_35 rfl rfl ?_
        refine s_iald (pc2 := 37) X dX4_nextWant_36 rfl (fun v8 hv8 => ?_)
        refine s_aload_n (j := 0) (pc2 := 38) X dX4_nextWant_37 rfl rfl ?_
        refine s_getI (pc2 := 41) X dX4_nextWant_38 rfl fl_RX4_9 rfl (fun v9 hv9 => ?_)
        refine s_iclt (tgt := 72) X dX4_nextWant_41 (by decide) rfl hv8 hv9 ?_ ?_
        · exact z_X4_nextWant_L72 d hd K X (m_X4_nextWant_L4 n) ih l0 l1 l2 l3 h1 h2 h3
        · refine s_iload_n (j := 2) (pc2 := 45) X dX4_nextWant_44 rfl rfl ?_
          refine s_iconst (n := (-1)) (pc2 := 46) X dX4_nextWant_45 rfl ?_
          refine s_iceq (tgt := 70) X dX4_nextWant_46 (by decide) rfl h2 (inI_c (-1) rfl) ?_ ?_
          · refine s_sub (lv2 := [(0, vR C.1.1 l0), (1, vI l1), (3, vI l3)]) [0, 1, 3] rfl ?_
            exact z_X4_nextWant_L70 d hd K X (m_X4_nextWant_L4 n) ih l0 l1 l3 h1 h3
          · refine s_aload_n (j := 0) (pc2 := 50) X dX4_nextWant_49 rfl rfl ?_
            refine s_getR (pc2 := 53) X dX4_nextWant_50 rfl fl_RX4_28 rfl (fun v10 => ?_)
            refine s_getR (pc2 := 56) X dX4_nextWant_53 rfl fl_RX4_80 rfl (fun v11 => ?_)
            refine s_iload_n (j := 3) (pc2 := 57) X dX4_nextWant_56 rfl rfl ?_
            refine s_iald (pc2 := 58) X dX4_nextWant_57 rfl (fun v12 hv12 => ?_)
            refine s_aload_n (j := 0) (pc2 := 59) X dX4_nextWant_58 rfl rfl ?_
            refine s_getR (pc2 := 62) X dX4_nextWant_59 rfl fl_RX4_28 rfl (fun v13 => ?_)
            refine s_getR (pc2 := 65) X dX4_nextWant_62 rfl fl_RX4_80 rfl (fun v14 => ?_)
            refine s_iload_n (j := 2) (pc2 := 66) X dX4_nextWant_65 rfl rfl ?_
            refine s_iald (pc2 := 67) X dX4_nextWant_66 rfl (fun v15 hv15 => ?_)
            refine s_icge (tgt := 72) X dX4_nextWant_67 (by decide) rfl hv12 hv15 ?_ ?_
            · exact z_X4_nextWant_L72 d hd K X (m_X4_nextWant_L4 n) ih l0 l1 l2 l3 h1 h2 h3
            · refine s_sub (lv2 := [(0, vR C.1.1 l0), (1, vI l1), (3, vI l3)]) [0, 1, 3] rfl ?_
              exact z_X4_nextWant_L70 d hd K X (m_X4_nextWant_L4 n) ih l0 l1 l3 h1 h3
set_option maxRecDepth 4000 in
set_option maxHeartbeats 20000000 in
theorem z_X4_nextWant (d : Nat) (hd : 1 ≤ d) {C : hCx} (K : hCtx C.1 C.2.2.1 d 0 0 "nextWant" C) (X : hOK C cX4_nextWant RX4 4 (some .int)) (l0 : Nat) (l1 : Int) (h1 : inI l1) : hSim C (some .int) 0 0 4 0 [(0, vR C.1.1 l0), (1, vI l1)] [] 0 0 (m_X4_nextWant l0 l1) := by
  obtain ⟨⟨hf, hlo⟩, ⟨hc1, hc2⟩, hf1, hl1⟩ := K_room K (by omega)
  have hcs : 0 ≤ C.2.2.2.2.1.cells ∧ 0 ≤ C.2.2.2.2.1.slots := ⟨Nat.zero_le _, Nat.zero_le _⟩
  unfold m_X4_nextWant
  refine s_iconst (n := (-1)) (pc2 := 1) X dX4_nextWant_0 rfl ?_
  refine s_istore_n (pc2 := 2) X dX4_nextWant_1 rfl (by decide) rfl rfl cat1_I (inI_c (-1) rfl) (fun w1 hw1 => ?_)
  refine s_iconst (n := 0) (pc2 := 3) X dX4_nextWant_2 rfl ?_
  refine s_istore_n (pc2 := 4) X dX4_nextWant_3 rfl (by decide) rfl rfl cat1_I (inI_c 0 rfl) (fun w2 hw2 => ?_)
  refine s_sub (lv2 := [(0, vR C.1.1 l0), (1, vI l1), (2, vI w1), (3, vI w2)]) [2, 3, 1, 0] rfl ?_
  exact z_X4_nextWant_L4 d hd K X 1000000000 l0 l1 w1 w2 h1 hw1 hw2
theorem c_X4_nextWant (d : Nat) (hd : 1 ≤ d) (G : hG) (l : Launch) (l0 : Nat) (l1 : Int) (h1 : inI l1) : hMet G l yX4_nextWant cX4_nextWant 4 (some .int) d 0 0 [vR G.1 l0, vI l1] (m_X4_nextWant l0 l1) := by
  refine hMet.of (lv := [(0, vR G.1 l0), (1, vI l1)]) (by decide +kernel) (by simp [lg_sl, vR_cat, vI_cat, vL_cat, vS_cat2, vT_cat2]) (by simp [lv_args, vR_cat, vI_cat, vL_cat, vS_cat2, vT_cat2]) (fun C K X => ?_)
  obtain ⟨rfl, rfl, K⟩ := K
  exact z_X4_nextWant d hd ⟨rfl, rfl, K⟩ X l0 l1 h1
def m_X4_goalOf_L32 (s0 : Int) : hM :=
  hret s0
def m_X4_goalOf (l0 : Nat) (l1 : Int) : hM :=
  hcallV 4 l0 (m_X4_nextWant l0 l1) fun v1 =>
  hlet v1 fun (w2 : Int) =>
  hif (w2 ≠ ((-1))) (
hgR 4 l0 0 fun v3 =>
  hgR 7 v3 12 fun v4 =>
  haI 20 v4 w2 fun v5 =>
  m_X4_goalOf_L32 v5) (
hgR 4 l0 0 fun v6 =>
  hgR 7 v6 8 fun v7 =>
  haI 20 v7 l1 fun v8 =>
  m_X4_goalOf_L32 v8)
set_option maxRecDepth 4000 in
theorem z_X4_goalOf_L32 (d : Nat) (hd : 2 ≤ d) {C : hCx} (K : hCtx C.1 C.2.2.1 d 0 0 "goalOf" C) (X : hOK C cX4_goalOf RX4 3 (some .int)) (s0 : Int) (g0 : inI s0) : hSim C (some .int) 0 0 3 32 [] [vI s0] 0 0 (m_X4_goalOf_L32 s0) := by
  obtain ⟨⟨hf, hlo⟩, ⟨hc1, hc2⟩, hf1, hl1⟩ := K_room K (by omega)
  have hcs : 0 ≤ C.2.2.2.2.1.cells ∧ 0 ≤ C.2.2.2.2.1.slots := ⟨Nat.zero_le _, Nat.zero_le _⟩
  unfold m_X4_goalOf_L32
  exact s_iret X dX4_goalOf_32 g0
set_option maxRecDepth 4000 in
set_option maxHeartbeats 20000000 in
theorem z_X4_goalOf (d : Nat) (hd : 2 ≤ d) {C : hCx} (K : hCtx C.1 C.2.2.1 d 0 0 "goalOf" C) (X : hOK C cX4_goalOf RX4 3 (some .int)) (l0 : Nat) (l1 : Int) (h1 : inI l1) : hSim C (some .int) 0 0 3 0 [(0, vR C.1.1 l0), (1, vI l1)] [] 0 0 (m_X4_goalOf l0 l1) := by
  obtain ⟨⟨hf, hlo⟩, ⟨hc1, hc2⟩, hf1, hl1⟩ := K_room K (by omega)
  have hcs : 0 ≤ C.2.2.2.2.1.cells ∧ 0 ≤ C.2.2.2.2.1.slots := ⟨Nat.zero_le _, Nat.zero_le _⟩
  unfold m_X4_goalOf
  refine s_aload_n (j := 0) (pc2 := 1) X dX4_goalOf_0 rfl rfl ?_
  refine s_iload_n (j := 1) (pc2 := 2) X dX4_goalOf_1 rfl rfl ?_
  refine s_callVI (d2 := d - 1) (As := [vI l1]) (st := []) (pc2 := 5) X dX4_goalOf_2 rfl ml_RX4_103 im_X4_nextWant se_X4_nextWant kX4 rfl (c_X4_nextWant (d - 1) (by omega) C.1 C.2.2.1 l0 l1 h1) hy_X4_nextWant rfl rfl hf hlo (st_room (Nat.le_of_ble_eq_true rfl)) hcs (fun v1 hv1 => ?_)
  refine s_istore_n (pc2 := 6) X dX4_goalOf_5 rfl (by decide) rfl rfl cat1_I hv1 (fun w2 hw2 => ?_)
  refine s_iload_n (j := 0) (pc2 := 7) X dX4_goalOf_6 rfl rfl ?_
  refine s_iconst (n := (-1)) (pc2 := 8) X dX4_goalOf_7 rfl ?_
  refine s_icne (tgt := 23) X dX4_goalOf_8 (by decide) rfl hw2 (inI_c (-1) rfl) ?_ ?_
  · refine s_aload_n (j := 1) (pc2 := 24) X dX4_goalOf_23 rfl rfl ?_
    refine s_getR (pc2 := 27) X dX4_goalOf_24 rfl fl_RX4_28 rfl (fun v3 => ?_)
    refine s_getR (pc2 := 30) X dX4_goalOf_27 rfl fl_RX4_83 rfl (fun v4 => ?_)
    refine s_iload_n (j := 0) (pc2 := 31) X dX4_goalOf_30 rfl rfl ?_
    refine s_iald (pc2 := 32) X dX4_goalOf_31 rfl (fun v5 hv5 => ?_)
    refine s_sub (lv2 := []) [] rfl ?_
    exact z_X4_goalOf_L32 d hd K X v5 hv5
  · refine s_aload_n (j := 1) (pc2 := 12) X dX4_goalOf_11 rfl rfl ?_
    refine s_getR (pc2 := 15) X dX4_goalOf_12 rfl fl_RX4_28 rfl (fun v6 => ?_)
    refine s_getR (pc2 := 18) X dX4_goalOf_15 rfl fl_RX4_32 rfl (fun v7 => ?_)
    refine s_iload_n (j := 2) (pc2 := 19) X dX4_goalOf_18 rfl rfl ?_
    refine s_iald (pc2 := 20) X dX4_goalOf_19 rfl (fun v8 hv8 => ?_)
    refine s_goto (pc2 := 32) X dX4_goalOf_20 (by decide) ?_
    refine s_sub (lv2 := []) [] rfl ?_
    exact z_X4_goalOf_L32 d hd K X v8 hv8
theorem c_X4_goalOf (d : Nat) (hd : 2 ≤ d) (G : hG) (l : Launch) (l0 : Nat) (l1 : Int) (h1 : inI l1) : hMet G l yX4_goalOf cX4_goalOf 3 (some .int) d 0 0 [vR G.1 l0, vI l1] (m_X4_goalOf l0 l1) := by
  refine hMet.of (lv := [(0, vR G.1 l0), (1, vI l1)]) (by decide +kernel) (by simp [lg_sl, vR_cat, vI_cat, vL_cat, vS_cat2, vT_cat2]) (by simp [lv_args, vR_cat, vI_cat, vL_cat, vS_cat2, vT_cat2]) (fun C K X => ?_)
  obtain ⟨rfl, rfl, K⟩ := K
  exact z_X4_goalOf d hd ⟨rfl, rfl, K⟩ X l0 l1 h1
def m_X4_othersIn_L28 (k4 : Nat → Int → Int → Int → hM) (l0 : Nat) (l1 : Int) (l2 : Int) (l3 : Int) : hM :=
  hlet (w32 (l3 + 1)) fun (w1 : Int) =>
  k4 l0 l1 l2 w1
def m_X4_othersIn_L4 : Nat → Nat → Int → Int → Int → hM
  | 0, _, _, _, _ => hfail
  | n + 1, l0, l1, l2, l3 =>
    hgR 4 l0 0 fun v1 =>
  hgI 7 v1 7 fun v2 =>
  hif (l3 ≥ v2) (
hret l2) (
hgR 4 l0 2 fun v3 =>
  haI 20 v3 l3 fun v4 =>
  hif (v4 ≠ l1) (
m_X4_othersIn_L28 (m_X4_othersIn_L4 n) l0 l1 l2 l3) (
hlet (w32 (l2 + 1)) fun (w5 : Int) =>
  m_X4_othersIn_L28 (m_X4_othersIn_L4 n) l0 l1 w5 l3))
def m_X4_othersIn (l0 : Nat) (l1 : Int) : hM :=
  hlet (0 : Int) fun (w1 : Int) =>
  hlet (0 : Int) fun (w2 : Int) =>
  m_X4_othersIn_L4 1000000000 l0 l1 w1 w2
set_option maxRecDepth 4000 in
theorem z_X4_othersIn_L28 (d : Nat) (hd : 1 ≤ d) {C : hCx} (K : hCtx C.1 C.2.2.1 d 0 0 "othersIn" C) (X : hOK C cX4_othersIn RX4 4 (some .int)) (k4 : Nat → Int → Int → Int → hM) (hk4 : ∀ (l0 : Nat) (l1 : Int) (l2 : Int) (l3 : Int), inI l1 → inI l2 → inI l3 → hSim C (some .int) 0 0 4 4 [(0, vR C.1.1 l0), (1, vI l1), (2, vI l2), (3, vI l3)] [] 0 0 (k4 l0 l1 l2 l3)) (l0 : Nat) (l1 : Int) (l2 : Int) (l3 : Int) (h1 : inI l1) (h2 : inI l2) (h3 : inI l3) : hSim C (some .int) 0 0 4 28 [(0, vR C.1.1 l0), (1, vI l1), (2, vI l2), (3, vI l3)] [] 0 0 (m_X4_othersIn_L28 k4 l0 l1 l2 l3) := by
  obtain ⟨⟨hf, hlo⟩, ⟨hc1, hc2⟩, hf1, hl1⟩ := K_room K (by omega)
  have hcs : 0 ≤ C.2.2.2.2.1.cells ∧ 0 ≤ C.2.2.2.2.1.slots := ⟨Nat.zero_le _, Nat.zero_le _⟩
  unfold m_X4_othersIn_L28
  refine s_iinc (j := 3) (pc2 := 31) X dX4_othersIn_28 rfl (by decide) rfl rfl rfl cat1_I (fun w1 hw1 => ?_)
  refine s_goto (pc2 := 4) X dX4_othersIn_31 (by decide) ?_
  refine s_sub (lv2 := [(0, vR C.1.1 l0), (1, vI l1), (2, vI l2), (3, vI w1)]) [1, 2, 3, 0] rfl ?_
  exact hk4 l0 l1 l2 w1 h1 h2 hw1
set_option maxRecDepth 4000 in
theorem z_X4_othersIn_L4 (d : Nat) (hd : 1 ≤ d) {C : hCx} (K : hCtx C.1 C.2.2.1 d 0 0 "othersIn" C) (X : hOK C cX4_othersIn RX4 4 (some .int)) : ∀ (n : Nat) (l0 : Nat) (l1 : Int) (l2 : Int) (l3 : Int) (h1 : inI l1) (h2 : inI l2) (h3 : inI l3), hSim C (some .int) 0 0 4 4 [(0, vR C.1.1 l0), (1, vI l1), (2, vI l2), (3, vI l3)] [] 0 0 (m_X4_othersIn_L4 n l0 l1 l2 l3) := by
  obtain ⟨⟨hf, hlo⟩, ⟨hc1, hc2⟩, hf1, hl1⟩ := K_room K (by omega)
  have hcs : 0 ≤ C.2.2.2.2.1.cells ∧ 0 ≤ C.2.2.2.2.1.slots := ⟨Nat.zero_le _, Nat.zero_le _⟩
  intro n
  induction n with
  | zero => intros; exact s_none (fun _ => rfl)
  | succ n ih =>
    intro l0 l1 l2 l3 h1 h2 h3
    unfold m_X4_othersIn_L4
    refine s_iload_n (j := 3) (pc2 := 5) X dX4_othersIn_4 rfl rfl ?_
    refine s_aload_n (j := 0) (pc2 := 6) X dX4_othersIn_5 rfl rfl ?_
    refine s_getR (pc2 := 9) X dX4_othersIn_6 rfl fl_RX4_28 rfl (fun v1 => ?_)
    refine s_getI (pc2 := 12) X dX4_othersIn_9 rfl fl_RX4_68 rfl (fun v2 hv2 => ?_)
    refine s_icge (tgt := 34) X dX4_othersIn_12 (by decide) rfl h3 hv2 ?_ ?_
    · refine s_iload_n (j := 2) (pc2 := 35) X dX4_othersIn_34 rfl rfl ?_
      exact s_iret X dX4_othersIn_35 h2
    · refine s_aload_n (j := 0) (pc2 := 16) X dX4_othersIn_15 rfl rfl ?_
      refine s_getR (pc2 := 19) X dX4_othersIn_16 rfl fl_RX4_15 rfl (fun v3 => ?_)
      refine s_iload_n (j := 3) (pc2 := 20) X dX4_othersIn_19 rfl rfl ?_
      refine s_iald (pc2 := 21) X dX4_othersIn_20 rfl (fun v4 hv4 => ?_)
      refine s_iload_n (j := 1) (pc2 := 22) X dX4_othersIn_21 rfl rfl ?_
      refine s_icne (tgt := 28) X dX4_othersIn_22 (by decide) rfl hv4 h1 ?_ ?_
      · exact z_X4_othersIn_L28 d hd K X (m_X4_othersIn_L4 n) ih l0 l1 l2 l3 h1 h2 h3
      · refine s_iinc (j := 2) (pc2 := 28) X dX4_othersIn_25 rfl (by decide) rfl rfl rfl cat1_I (fun w5 hw5 => ?_)
        refine s_sub (lv2 := [(0, vR C.1.1 l0), (1, vI l1), (2, vI w5), (3, vI l3)]) [1, 2, 0, 3] rfl ?_
        exact z_X4_othersIn_L28 d hd K X (m_X4_othersIn_L4 n) ih l0 l1 w5 l3 h1 hw5 h3
set_option maxRecDepth 4000 in
set_option maxHeartbeats 20000000 in
theorem z_X4_othersIn (d : Nat) (hd : 1 ≤ d) {C : hCx} (K : hCtx C.1 C.2.2.1 d 0 0 "othersIn" C) (X : hOK C cX4_othersIn RX4 4 (some .int)) (l0 : Nat) (l1 : Int) (h1 : inI l1) : hSim C (some .int) 0 0 4 0 [(0, vR C.1.1 l0), (1, vI l1)] [] 0 0 (m_X4_othersIn l0 l1) := by
  obtain ⟨⟨hf, hlo⟩, ⟨hc1, hc2⟩, hf1, hl1⟩ := K_room K (by omega)
  have hcs : 0 ≤ C.2.2.2.2.1.cells ∧ 0 ≤ C.2.2.2.2.1.slots := ⟨Nat.zero_le _, Nat.zero_le _⟩
  unfold m_X4_othersIn
  refine s_iconst (n := 0) (pc2 := 1) X dX4_othersIn_0 rfl ?_
  refine s_istore_n (pc2 := 2) X dX4_othersIn_1 rfl (by decide) rfl rfl cat1_I (inI_c 0 rfl) (fun w1 hw1 => ?_)
  refine s_iconst (n := 0) (pc2 := 3) X dX4_othersIn_2 rfl ?_
  refine s_istore_n (pc2 := 4) X dX4_othersIn_3 rfl (by decide) rfl rfl cat1_I (inI_c 0 rfl) (fun w2 hw2 => ?_)
  refine s_sub (lv2 := [(0, vR C.1.1 l0), (1, vI l1), (2, vI w1), (3, vI w2)]) [2, 3, 1, 0] rfl ?_
  exact z_X4_othersIn_L4 d hd K X 1000000000 l0 l1 w1 w2 h1 hw1 hw2
theorem c_X4_othersIn (d : Nat) (hd : 1 ≤ d) (G : hG) (l : Launch) (l0 : Nat) (l1 : Int) (h1 : inI l1) : hMet G l yX4_othersIn cX4_othersIn 4 (some .int) d 0 0 [vR G.1 l0, vI l1] (m_X4_othersIn l0 l1) := by
  refine hMet.of (lv := [(0, vR G.1 l0), (1, vI l1)]) (by decide +kernel) (by simp [lg_sl, vR_cat, vI_cat, vL_cat, vS_cat2, vT_cat2]) (by simp [lv_args, vR_cat, vI_cat, vL_cat, vS_cat2, vT_cat2]) (fun C K X => ?_)
  obtain ⟨rfl, rfl, K⟩ := K
  exact z_X4_othersIn d hd ⟨rfl, rfl, K⟩ X l0 l1 h1
def m_X4_tellWords_L65 : hM :=
  hret 0
def m_X4_tellWords_L187 (l0 : Nat) (l4 : Nat) (l5 : Int) (l6 : Int) (l7 : Int) (s0 : Nat) (s1 : Int) (s2 : Int) : hM :=
  hsI 21 s0 s1 s2 <|
  hgR 4 l0 0 fun v1 =>
  hcallV 7 v1 (m_X7_nearer v1 l5 l6 l7) fun v2 =>
  hsI 21 l4 10 v2 <|
  hcallV 4 l0 (m_X4_othersIn l0 l5) fun v3 =>
  hsI 21 l4 11 ((w32 (v3 - 1))) <|
  hret 0
def m_X4_tellWords_L158 (l0 : Nat) (l3 : Int) (l4 : Nat) (l5 : Int) (l6 : Int) (l7 : Int) (s0 : Nat) (s1 : Int) (s2 : Int) : hM :=
  hsI 21 s0 s1 s2 <|
  hif (l3 ≠ ((-1))) (
hgR 4 l0 0 fun v1 =>
  hgR 7 v1 13 fun v2 =>
  haI 20 v2 l3 fun v3 =>
  hgI 4 l0 1 fun v4 =>
  m_X4_tellWords_L187 l0 l4 l5 l6 l7 l4 9 ((w32 (v3 - v4)))) (
m_X4_tellWords_L187 l0 l4 l5 l6 l7 l4 9 0)
def m_X4_tellWords_L49 (l0 : Nat) (l1 : Int) (l2 : Int) (l3 : Int) (l4 : Nat) (l5 : Int) (l6 : Int) (s0 : Int) : hM :=
  hlet s0 fun (w1 : Int) =>
  hlen 21 l4 fun v2 =>
  hif (v2 < 12) (
m_X4_tellWords_L65) (
hif (l6 ≠ ((-1))) (
hsI 21 l4 0 l1 <|
  hsI 21 l4 1 l2 <|
  hsI 21 l4 2 l5 <|
  hsI 21 l4 3 l6 <|
  hgR 4 l0 0 fun v3 =>
  hgR 7 v3 8 fun v4 =>
  haI 20 v4 l1 fun v5 =>
  hsI 21 l4 4 v5 <|
  hcallV 4 l0 (m_X4_leftTo l0 l1 l2) fun v6 =>
  hsI 21 l4 5 v6 <|
  hgI 4 l0 1 fun v7 =>
  hsI 21 l4 6 v7 <|
  hsI 21 l4 7 w1 <|
  hif (l3 ≠ ((-1))) (
hgR 4 l0 0 fun v8 =>
  hgR 7 v8 14 fun v9 =>
  haI 20 v9 l3 fun v10 =>
  m_X4_tellWords_L158 l0 l3 l4 l5 l6 w1 l4 8 v10) (
m_X4_tellWords_L158 l0 l3 l4 l5 l6 w1 l4 8 0)) (
m_X4_tellWords_L65))
def m_X4_tellWords (l0 : Nat) (l1 : Int) (l2 : Int) (l3 : Int) (l4 : Nat) : hM :=
  hgR 4 l0 2 fun v1 =>
  haI 20 v1 l1 fun v2 =>
  hlet v2 fun (w3 : Int) =>
  hgR 4 l0 0 fun v4 =>
  hgR 7 v4 2 fun v5 =>
  hcallV 1 v5 (m_X1_across v5 l2 w3) fun v6 =>
  hlet v6 fun (w7 : Int) =>
  hif (l3 ≠ ((-1))) (
hgR 4 l0 0 fun v8 =>
  hgR 7 v8 12 fun v9 =>
  haI 20 v9 l3 fun v10 =>
  m_X4_tellWords_L49 l0 l1 l2 l3 l4 w3 w7 v10) (
hgR 4 l0 0 fun v11 =>
  hgR 7 v11 8 fun v12 =>
  haI 20 v12 l1 fun v13 =>
  m_X4_tellWords_L49 l0 l1 l2 l3 l4 w3 w7 v13)
set_option maxRecDepth 4000 in
theorem z_X4_tellWords_L65 (d : Nat) (hd : 2 ≤ d) {C : hCx} (K : hCtx C.1 C.2.2.1 d 0 0 "tellWords" C) (X : hOK C cX4_tellWords RX4 8 none) : hSim C none 0 0 8 65 [] [] 0 0 (m_X4_tellWords_L65) := by
  obtain ⟨⟨hf, hlo⟩, ⟨hc1, hc2⟩, hf1, hl1⟩ := K_room K (by omega)
  have hcs : 0 ≤ C.2.2.2.2.1.cells ∧ 0 ≤ C.2.2.2.2.1.slots := ⟨Nat.zero_le _, Nat.zero_le _⟩
  unfold m_X4_tellWords_L65
  exact s_ret X dX4_tellWords_65
set_option maxRecDepth 4000 in
theorem z_X4_tellWords_L187 (d : Nat) (hd : 2 ≤ d) {C : hCx} (K : hCtx C.1 C.2.2.1 d 0 0 "tellWords" C) (X : hOK C cX4_tellWords RX4 8 none) (l0 : Nat) (l4 : Nat) (l5 : Int) (l6 : Int) (l7 : Int) (s0 : Nat) (s1 : Int) (s2 : Int) (h5 : inI l5) (h6 : inI l6) (h7 : inI l7) (g1 : inI s1) (g2 : inL s2) : hSim C none 0 0 8 187 [(0, vR C.1.1 l0), (4, vR C.1.1 l4), (5, vI l5), (6, vI l6), (7, vI l7)] [vL s2, vI s1, vR C.1.1 s0] 0 0 (m_X4_tellWords_L187 l0 l4 l5 l6 l7 s0 s1 s2) := by
  obtain ⟨⟨hf, hlo⟩, ⟨hc1, hc2⟩, hf1, hl1⟩ := K_room K (by omega)
  have hcs : 0 ≤ C.2.2.2.2.1.cells ∧ 0 ≤ C.2.2.2.2.1.slots := ⟨Nat.zero_le _, Nat.zero_le _⟩
  unfold m_X4_tellWords_L187
  refine s_last (pc2 := 188) X dX4_tellWords_187 rfl g2 ?_
  refine s_aload (j := 1) (pc2 := 190) X dX4_tellWords_188 rfl rfl ?_
  refine s_bipush (n := 10) (pc2 := 192) X dX4_tellWords_190 rfl rfl ?_
  refine s_aload_n (j := 0) (pc2 := 193) X dX4_tellWords_192 rfl rfl ?_
  refine s_getR (pc2 := 196) X dX4_tellWords_193 rfl fl_RX4_28 rfl (fun v1 => ?_)
  refine s_iload (j := 2) (pc2 := 198) X dX4_tellWords_196 rfl rfl ?_
  refine s_iload (j := 3) (pc2 := 200) X dX4_tellWords_198 rfl rfl ?_
  refine s_iload (j := 4) (pc2 := 202) X dX4_tellWords_200 rfl rfl ?_
  refine s_callVI (d2 := d - 1) (As := [vI l5, vI l6, vI l7]) (st := [vI 10, vR C.1.1 l4]) (pc2 := 205) X dX4_tellWords_202 rfl ml_RX4_109 im_X7_nearer se_X7_nearer kX7 rfl (c_X7_nearer (d - 1) (by omega) C.1 C.2.2.1 v1 l5 l6 l7 h5 h6 h7) hy_X7_nearer rfl rfl hf hlo (st_room (Nat.le_of_ble_eq_true rfl)) hcs (fun v2 hv2 => ?_)
  refine s_i2l (pc2 := 206) X dX4_tellWords_205 rfl hv2 ?_
  refine s_last (pc2 := 207) X dX4_tellWords_206 rfl (inL_of hv2) ?_
  refine s_aload (j := 1) (pc2 := 209) X dX4_tellWords_207 rfl rfl ?_
  refine s_bipush (n := 11) (pc2 := 211) X dX4_tellWords_209 rfl rfl ?_
  refine s_aload_n (j := 0) (pc2 := 212) X dX4_tellWords_211 rfl rfl ?_
  refine s_iload (j := 2) (pc2 := 214) X dX4_tellWords_212 rfl rfl ?_
  refine s_callVI (d2 := d - 1) (As := [vI l5]) (st := [vI 11, vR C.1.1 l4]) (pc2 := 217) X dX4_tellWords_214 rfl ml_RX4_113 im_X4_othersIn se_X4_othersIn kX4 rfl (c_X4_othersIn (d - 1) (by omega) C.1 C.2.2.1 l0 l5 h5) hy_X4_othersIn rfl rfl hf hlo (st_room (Nat.le_of_ble_eq_true rfl)) hcs (fun v3 hv3 => ?_)
  refine s_iconst (n := 1) (pc2 := 218) X dX4_tellWords_217 rfl ?_
  refine s_isub (pc2 := 219) X dX4_tellWords_218 rfl ?_
  refine s_i2l (pc2 := 220) X dX4_tellWords_219 rfl (w32_in _) ?_
  refine s_last (pc2 := 221) X dX4_tellWords_220 rfl (inL_of (w32_in _)) ?_
  exact s_ret X dX4_tellWords_221
set_option maxRecDepth 4000 in
theorem z_X4_tellWords_L158 (d : Nat) (hd : 2 ≤ d) {C : hCx} (K : hCtx C.1 C.2.2.1 d 0 0 "tellWords" C) (X : hOK C cX4_tellWords RX4 8 none) (l0 : Nat) (l3 : Int) (l4 : Nat) (l5 : Int) (l6 : Int) (l7 : Int) (s0 : Nat) (s1 : Int) (s2 : Int) (h3 : inI l3) (h5 : inI l5) (h6 : inI l6) (h7 : inI l7) (g1 : inI s1) (g2 : inL s2) : hSim C none 0 0 8 158 [(0, vR C.1.1 l0), (3, vI l3), (4, vR C.1.1 l4), (5, vI l5), (6, vI l6), (7, vI l7)] [vL s2, vI s1, vR C.1.1 s0] 0 0 (m_X4_tellWords_L158 l0 l3 l4 l5 l6 l7 s0 s1 s2) := by
  obtain ⟨⟨hf, hlo⟩, ⟨hc1, hc2⟩, hf1, hl1⟩ := K_room K (by omega)
  have hcs : 0 ≤ C.2.2.2.2.1.cells ∧ 0 ≤ C.2.2.2.2.1.slots := ⟨Nat.zero_le _, Nat.zero_le _⟩
  unfold m_X4_tellWords_L158
  refine s_last (pc2 := 159) X dX4_tellWords_158 rfl g2 ?_
  refine s_aload (j := 2) (pc2 := 161) X dX4_tellWords_159 rfl rfl ?_
  refine s_bipush (n := 9) (pc2 := 163) X dX4_tellWords_161 rfl rfl ?_
  refine s_iload_n (j := 1) (pc2 := 164) X dX4_tellWords_163 rfl rfl ?_
  refine s_iconst (n := (-1)) (pc2 := 165) X dX4_tellWords_164 rfl ?_
  refine s_icne (tgt := 172) X dX4_tellWords_165 (by decide) rfl h3 (inI_c (-1) rfl) ?_ ?_
  · refine s_aload_n (j := 0) (pc2 := 173) X dX4_tellWords_172 rfl rfl ?_
    refine s_getR (pc2 := 176) X dX4_tellWords_173 rfl fl_RX4_28 rfl (fun v1 => ?_)
    refine s_getR (pc2 := 179) X dX4_tellWords_176 rfl fl_RX4_80 rfl (fun v2 => ?_)
    refine s_iload_n (j := 1) (pc2 := 180) X dX4_tellWords_179 rfl rfl ?_
    refine s_iald (pc2 := 181) X dX4_tellWords_180 rfl (fun v3 hv3 => ?_)
    refine s_aload_n (j := 0) (pc2 := 182) X dX4_tellWords_181 rfl rfl ?_
    refine s_getI (pc2 := 185) X dX4_tellWords_182 rfl fl_RX4_9 rfl (fun v4 hv4 => ?_)
    refine s_isub (pc2 := 186) X dX4_tellWords_185 rfl ?_
    refine s_i2l (pc2 := 187) X dX4_tellWords_186 rfl (w32_in _) ?_
    refine s_sub (lv2 := [(0, vR C.1.1 l0), (4, vR C.1.1 l4), (5, vI l5), (6, vI l6), (7, vI l7)]) [0, 2, 3, 4, 5] rfl ?_
    exact z_X4_tellWords_L187 d hd K X l0 l4 l5 l6 l7 l4 9 ((w32 (v3 - v4))) h5 h6 h7 (inI_c 9 rfl) (inL_of (w32_in _))
  · refine s_lconst (z := 0) (pc2 := 169) X dX4_tellWords_168 rfl rfl ?_
    refine s_goto (pc2 := 187) X dX4_tellWords_169 (by decide) ?_
    refine s_sub (lv2 := [(0, vR C.1.1 l0), (4, vR C.1.1 l4), (5, vI l5), (6, vI l6), (7, vI l7)]) [0, 2, 3, 4, 5] rfl ?_
    exact z_X4_tellWords_L187 d hd K X l0 l4 l5 l6 l7 l4 9 0 h5 h6 h7 (inI_c 9 rfl) (inL_c 0 rfl)
set_option maxRecDepth 4000 in
theorem z_X4_tellWords_L49 (d : Nat) (hd : 2 ≤ d) {C : hCx} (K : hCtx C.1 C.2.2.1 d 0 0 "tellWords" C) (X : hOK C cX4_tellWords RX4 8 none) (l0 : Nat) (l1 : Int) (l2 : Int) (l3 : Int) (l4 : Nat) (l5 : Int) (l6 : Int) (s0 : Int) (h1 : inI l1) (h2 : inI l2) (h3 : inI l3) (h5 : inI l5) (h6 : inI l6) (g0 : inI s0) : hSim C none 0 0 8 49 [(0, vR C.1.1 l0), (1, vI l1), (2, vI l2), (3, vI l3), (4, vR C.1.1 l4), (5, vI l5), (6, vI l6)] [vI s0] 0 0 (m_X4_tellWords_L49 l0 l1 l2 l3 l4 l5 l6 s0) := by
  obtain ⟨⟨hf, hlo⟩, ⟨hc1, hc2⟩, hf1, hl1⟩ := K_room K (by omega)
  have hcs : 0 ≤ C.2.2.2.2.1.cells ∧ 0 ≤ C.2.2.2.2.1.slots := ⟨Nat.zero_le _, Nat.zero_le _⟩
  unfold m_X4_tellWords_L49
  refine s_istore (pc2 := 51) X dX4_tellWords_49 rfl (by decide) rfl rfl cat1_I g0 (fun w1 hw1 => ?_)
  refine s_aload (j := 5) (pc2 := 53) X dX4_tellWords_51 rfl rfl ?_
  refine s_alen21 (pc2 := 54) X dX4_tellWords_53 rfl (fun v2 hv2 => ?_)
  refine s_bipush (n := 12) (pc2 := 56) X dX4_tellWords_54 rfl rfl ?_
  refine s_iclt (tgt := 65) X dX4_tellWords_56 (by decide) rfl hv2 (inI_c 12 rfl) ?_ ?_
  · refine s_sub (lv2 := []) [] rfl ?_
    exact z_X4_tellWords_L65 d hd K X
  · refine s_iload (j := 7) (pc2 := 61) X dX4_tellWords_59 rfl rfl ?_
    refine s_iconst (n := (-1)) (pc2 := 62) X dX4_tellWords_61 rfl ?_
    refine s_icne (tgt := 66) X dX4_tellWords_62 (by decide) rfl h6 (inI_c (-1) rfl) ?_ ?_
    · refine s_aload (j := 5) (pc2 := 68) X dX4_tellWords_66 rfl rfl ?_
      refine s_iconst (n := 0) (pc2 := 69) X dX4_tellWords_68 rfl ?_
      refine s_iload_n (j := 2) (pc2 := 70) X dX4_tellWords_69 rfl rfl ?_
      refine s_i2l (pc2 := 71) X dX4_tellWords_70 rfl h1 ?_
      refine s_last (pc2 := 72) X dX4_tellWords_71 rfl (inL_of h1) ?_
      refine s_aload (j := 5) (pc2 := 74) X dX4_tellWords_72 rfl rfl ?_
      refine s_iconst (n := 1) (pc2 := 75) X dX4_tellWords_74 rfl ?_
      refine s_iload_n (j := 3) (pc2 := 76) X dX4_tellWords_75 rfl rfl ?_
      refine s_i2l (pc2 := 77) X dX4_tellWords_76 rfl h2 ?_
      refine s_last (pc2 := 78) X dX4_tellWords_77 rfl (inL_of h2) ?_
      refine s_aload (j := 5) (pc2 := 80) X dX4_tellWords_78 rfl rfl ?_
      refine s_iconst (n := 2) (pc2 := 81) X dX4_tellWords_80 rfl ?_
      refine s_iload (j := 6) (pc2 := 83) X dX4_tellWords_81 rfl rfl ?_
      refine s_i2l (pc2 := 84) X dX4_tellWords_83 rfl h5 ?_
      refine s_last (pc2 := 85) X dX4_tellWords_84 rfl (inL_of h5) ?_
      refine s_aload (j := 5) (pc2 := 87) X dX4_tellWords_85 rfl rfl ?_
      refine s_iconst (n := 3) (pc2 := 88) X dX4_tellWords_87 rfl ?_
      refine s_iload (j := 7) (pc2 := 90) X dX4_tellWords_88 rfl rfl ?_
      refine s_i2l (pc2 := 91) X dX4_tellWords_90 rfl h6 ?_
      refine s_last (pc2 := 92) X dX4_tellWords_91 rfl (inL_of h6) ?_
      refine s_aload (j := 5) (pc2 := 94) X dX4_tellWords_92 rfl rfl ?_
      refine s_iconst (n := 4) (pc2 := 95) X dX4_tellWords_94 rfl ?_
      refine s_aload_n (j := 1) (pc2 := 96) X dX4_tellWords_95 rfl rfl ?_
      refine s_getR (pc2 := 99) X dX4_tellWords_96 rfl fl_RX4_28 rfl (fun v3 => ?_)
      refine s_getR (pc2 := 102) X dX4_tellWords_99 rfl fl_RX4_32 rfl (fun v4 => ?_)
      refine s_iload_n (j := 2) (pc2 := 103) X dX4_tellWords_102 rfl rfl ?_
      refine s_iald (pc2 := 104) X dX4_tellWords_103 rfl (fun v5 hv5 => ?_)
      refine s_i2l (pc2 := 105) X dX4_tellWords_104 rfl hv5 ?_
      refine s_last (pc2 := 106) X dX4_tellWords_105 rfl (inL_of hv5) ?_
      refine s_aload (j := 5) (pc2 := 108) X dX4_tellWords_106 rfl rfl ?_
      refine s_iconst (n := 5) (pc2 := 109) X dX4_tellWords_108 rfl ?_
      refine s_aload_n (j := 1) (pc2 := 110) X dX4_tellWords_109 rfl rfl ?_
      refine s_iload_n (j := 2) (pc2 := 111) X dX4_tellWords_110 rfl rfl ?_
      refine s_iload_n (j := 3) (pc2 := 112) X dX4_tellWords_111 rfl rfl ?_
      refine s_callVI (d2 := d - 1) (As := [vI l1, vI l2]) (st := [vI 5, vR C.1.1 l4]) (pc2 := 115) X dX4_tellWords_112 rfl ml_RX4_64 im_X4_leftTo se_X4_leftTo kX4 rfl (c_X4_leftTo (d - 1) (by omega) C.1 C.2.2.1 l0 l1 l2 h1 h2) hy_X4_leftTo rfl rfl hf hlo (st_room (Nat.le_of_ble_eq_true rfl)) hcs (fun v6 hv6 => ?_)
      refine s_i2l (pc2 := 116) X dX4_tellWords_115 rfl hv6 ?_
      refine s_last (pc2 := 117) X dX4_tellWords_116 rfl (inL_of hv6) ?_
      refine s_aload (j := 5) (pc2 := 119) X dX4_tellWords_117 rfl rfl ?_
      refine s_bipush (n := 6) (pc2 := 121) X dX4_tellWords_119 rfl rfl ?_
      refine s_aload_n (j := 1) (pc2 := 122) X dX4_tellWords_121 rfl rfl ?_
      refine s_getI (pc2 := 125) X dX4_tellWords_122 rfl fl_RX4_9 rfl (fun v7 hv7 => ?_)
      refine s_i2l (pc2 := 126) X dX4_tellWords_125 rfl hv7 ?_
      refine s_last (pc2 := 127) X dX4_tellWords_126 rfl (inL_of hv7) ?_
      refine s_aload (j := 5) (pc2 := 129) X dX4_tellWords_127 rfl rfl ?_
      refine s_bipush (n := 7) (pc2 := 131) X dX4_tellWords_129 rfl rfl ?_
      refine s_iload (j := 0) (pc2 := 133) X dX4_tellWords_131 rfl rfl ?_
      refine s_i2l (pc2 := 134) X dX4_tellWords_133 rfl hw1 ?_
      refine s_last (pc2 := 135) X dX4_tellWords_134 rfl (inL_of hw1) ?_
      refine s_aload (j := 5) (pc2 := 137) X dX4_tellWords_135 rfl rfl ?_
      refine s_bipush (n := 8) (pc2 := 139) X dX4_tellWords_137 rfl rfl ?_
      refine s_iload_n (j := 4) (pc2 := 140) X dX4_tellWords_139 rfl rfl ?_
      refine s_iconst (n := (-1)) (pc2 := 141) X dX4_tellWords_140 rfl ?_
      refine s_icne (tgt := 148) X dX4_tellWords_141 (by decide) rfl h3 (inI_c (-1) rfl) ?_ ?_
      · refine s_aload_n (j := 1) (pc2 := 149) X dX4_tellWords_148 rfl rfl ?_
        refine s_getR (pc2 := 152) X dX4_tellWords_149 rfl fl_RX4_28 rfl (fun v8 => ?_)
        refine s_getR (pc2 := 155) X dX4_tellWords_152 rfl fl_RX4_86 rfl (fun v9 => ?_)
        refine s_iload_n (j := 4) (pc2 := 156) X dX4_tellWords_155 rfl rfl ?_
        refine s_iald (pc2 := 157) X dX4_tellWords_156 rfl (fun v10 hv10 => ?_)
        refine s_i2l (pc2 := 158) X dX4_tellWords_157 rfl hv10 ?_
        refine s_sub (lv2 := [(0, vR C.1.1 l0), (3, vI l3), (4, vR C.1.1 l4), (5, vI l5), (6, vI l6), (7, vI w1)]) [1, 4, 5, 6, 7, 0] rfl ?_
        exact z_X4_tellWords_L158 d hd K X l0 l3 l4 l5 l6 w1 l4 8 v10 h3 h5 h6 hw1 (inI_c 8 rfl) (inL_of hv10)
      · refine s_lconst (z := 0) (pc2 := 145) X dX4_tellWords_144 rfl rfl ?_
        refine s_goto (pc2 := 158) X dX4_tellWords_145 (by decide) ?_
        refine s_sub (lv2 := [(0, vR C.1.1 l0), (3, vI l3), (4, vR C.1.1 l4), (5, vI l5), (6, vI l6), (7, vI w1)]) [1, 4, 5, 6, 7, 0] rfl ?_
        exact z_X4_tellWords_L158 d hd K X l0 l3 l4 l5 l6 w1 l4 8 0 h3 h5 h6 hw1 (inI_c 8 rfl) (inL_c 0 rfl)
    · refine s_sub (lv2 := []) [] rfl ?_
      exact z_X4_tellWords_L65 d hd K X
set_option maxRecDepth 4000 in
set_option maxHeartbeats 20000000 in
theorem z_X4_tellWords (d : Nat) (hd : 2 ≤ d) {C : hCx} (K : hCtx C.1 C.2.2.1 d 0 0 "tellWords" C) (X : hOK C cX4_tellWords RX4 8 none) (l0 : Nat) (l1 : Int) (l2 : Int) (l3 : Int) (l4 : Nat) (h1 : inI l1) (h2 : inI l2) (h3 : inI l3) : hSim C none 0 0 8 0 [(0, vR C.1.1 l0), (1, vI l1), (2, vI l2), (3, vI l3), (4, vR C.1.1 l4)] [] 0 0 (m_X4_tellWords l0 l1 l2 l3 l4) := by
  obtain ⟨⟨hf, hlo⟩, ⟨hc1, hc2⟩, hf1, hl1⟩ := K_room K (by omega)
  have hcs : 0 ≤ C.2.2.2.2.1.cells ∧ 0 ≤ C.2.2.2.2.1.slots := ⟨Nat.zero_le _, Nat.zero_le _⟩
  unfold m_X4_tellWords
  refine s_aload_n (j := 0) (pc2 := 1) X dX4_tellWords_0 rfl rfl ?_
  refine s_getR (pc2 := 4) X dX4_tellWords_1 rfl fl_RX4_15 rfl (fun v1 => ?_)
  refine s_iload_n (j := 1) (pc2 := 5) X dX4_tellWords_4 rfl rfl ?_
  refine s_iald (pc2 := 6) X dX4_tellWords_5 rfl (fun v2 hv2 => ?_)
  refine s_istore (pc2 := 8) X dX4_tellWords_6 rfl (by decide) rfl rfl cat1_R hv2 (fun w3 hw3 => ?_)
  refine s_aload_n (j := 1) (pc2 := 9) X dX4_tellWords_8 rfl rfl ?_
  refine s_getR (pc2 := 12) X dX4_tellWords_9 rfl fl_RX4_28 rfl (fun v4 => ?_)
  refine s_getR (pc2 := 15) X dX4_tellWords_12 rfl fl_RX4_55 rfl (fun v5 => ?_)
  refine s_iload_n (j := 3) (pc2 := 16) X dX4_tellWords_15 rfl rfl ?_
  refine s_iload (j := 0) (pc2 := 18) X dX4_tellWords_16 rfl rfl ?_
  refine s_callVI (d2 := d - 1) (As := [vI l2, vI w3]) (st := []) (pc2 := 21) X dX4_tellWords_18 rfl ml_RX4_71 im_X1_across se_X1_across kX1 rfl (c_X1_across (d - 1) (by omega) C.1 C.2.2.1 v5 l2 w3 h2 hw3) hy_X1_across rfl rfl hf hlo (st_room (Nat.le_of_ble_eq_true rfl)) hcs (fun v6 hv6 => ?_)
  refine s_istore (pc2 := 23) X dX4_tellWords_21 rfl (by decide) rfl rfl cat1_I hv6 (fun w7 hw7 => ?_)
  refine s_iload_n (j := 5) (pc2 := 24) X dX4_tellWords_23 rfl rfl ?_
  refine s_iconst (n := (-1)) (pc2 := 25) X dX4_tellWords_24 rfl ?_
  refine s_icne (tgt := 40) X dX4_tellWords_25 (by decide) rfl h3 (inI_c (-1) rfl) ?_ ?_
  · refine s_aload_n (j := 2) (pc2 := 41) X dX4_tellWords_40 rfl rfl ?_
    refine s_getR (pc2 := 44) X dX4_tellWords_41 rfl fl_RX4_28 rfl (fun v8 => ?_)
    refine s_getR (pc2 := 47) X dX4_tellWords_44 rfl fl_RX4_83 rfl (fun v9 => ?_)
    refine s_iload_n (j := 5) (pc2 := 48) X dX4_tellWords_47 rfl rfl ?_
    refine s_iald (pc2 := 49) X dX4_tellWords_48 rfl (fun v10 hv10 => ?_)
    refine s_sub (lv2 := [(0, vR C.1.1 l0), (1, vI l1), (2, vI l2), (3, vI l3), (4, vR C.1.1 l4), (5, vI w3), (6, vI w7)]) [2, 3, 4, 5, 6, 1, 0] rfl ?_
    exact z_X4_tellWords_L49 d hd K X l0 l1 l2 l3 l4 w3 w7 v10 h1 h2 h3 hw3 hw7 hv10
  · refine s_aload_n (j := 2) (pc2 := 29) X dX4_tellWords_28 rfl rfl ?_
    refine s_getR (pc2 := 32) X dX4_tellWords_29 rfl fl_RX4_28 rfl (fun v11 => ?_)
    refine s_getR (pc2 := 35) X dX4_tellWords_32 rfl fl_RX4_32 rfl (fun v12 => ?_)
    refine s_iload_n (j := 3) (pc2 := 36) X dX4_tellWords_35 rfl rfl ?_
    refine s_iald (pc2 := 37) X dX4_tellWords_36 rfl (fun v13 hv13 => ?_)
    refine s_goto (pc2 := 49) X dX4_tellWords_37 (by decide) ?_
    refine s_sub (lv2 := [(0, vR C.1.1 l0), (1, vI l1), (2, vI l2), (3, vI l3), (4, vR C.1.1 l4), (5, vI w3), (6, vI w7)]) [2, 3, 4, 5, 6, 1, 0] rfl ?_
    exact z_X4_tellWords_L49 d hd K X l0 l1 l2 l3 l4 w3 w7 v13 h1 h2 h3 hw3 hw7 hv13
theorem c_X4_tellWords (d : Nat) (hd : 2 ≤ d) (G : hG) (l : Launch) (l0 : Nat) (l1 : Int) (l2 : Int) (l3 : Int) (l4 : Nat) (h1 : inI l1) (h2 : inI l2) (h3 : inI l3) : hMet G l yX4_tellWords cX4_tellWords 8 none d 0 0 [vR G.1 l0, vI l1, vI l2, vI l3, vR G.1 l4] (m_X4_tellWords l0 l1 l2 l3 l4) := by
  refine hMet.of (lv := [(0, vR G.1 l0), (1, vI l1), (2, vI l2), (3, vI l3), (4, vR G.1 l4)]) (by decide +kernel) (by simp [lg_sl, vR_cat, vI_cat, vL_cat, vS_cat2, vT_cat2]) (by simp [lv_args, vR_cat, vI_cat, vL_cat, vS_cat2, vT_cat2]) (fun C K X => ?_)
  obtain ⟨rfl, rfl, K⟩ := K
  exact z_X4_tellWords d hd ⟨rfl, rfl, K⟩ X l0 l1 l2 l3 l4 h1 h2 h3
def m_X4_reachOf_L127 (l3 : Int) : hM :=
  hret l3
def m_X4_reachOf_L106 (k12 : Nat → Int → Int → Int → Int → hM) (k30 : Nat → Int → Int → Int → Int → Int → Int → hM) (l0 : Nat) (l1 : Int) (l2 : Int) (l3 : Int) (l4 : Int) (l5 : Int) (l6 : Int) : hM :=
  hlet (w32 (l6 + 1)) fun (w1 : Int) =>
  k30 l0 l1 l2 l3 l4 l5 w1
def m_X4_reachOf_L101 (k12 : Nat → Int → Int → Int → Int → hM) (k30 : Nat → Int → Int → Int → Int → Int → Int → hM) (l0 : Nat) (l1 : Int) (l2 : Int) (l3 : Int) (l4 : Int) (l5 : Int) (l6 : Int) (l7 : Int) : hM :=
  hlet ((iorZ l3 l7)) fun (w1 : Int) =>
  m_X4_reachOf_L106 k12 k30 l0 l1 l2 w1 l4 l5 l6
def m_X4_reachOf_L30 (k12 : Nat → Int → Int → Int → Int → hM) : Nat → Nat → Int → Int → Int → Int → Int → Int → hM
  | 0, _, _, _, _, _, _, _ => hfail
  | n + 1, l0, l1, l2, l3, l4, l5, l6 =>
    hgR 4 l0 0 fun v1 =>
  hgR 7 v1 2 fun v2 =>
  hgI 1 v2 3 fun v3 =>
  hif (l6 ≥ v3) (
hif (l3 ≠ l5) (
hlet (w32 (l4 + 1)) fun (w4 : Int) =>
  k12 l0 l1 l2 l3 w4) (
m_X4_reachOf_L127 l3)) (
hgR 4 l0 0 fun v5 =>
  hgR 7 v5 2 fun v6 =>
  hgR 1 v6 0 fun v7 =>
  haI 20 v7 l6 fun v8 =>
  hgR 4 l0 0 fun v9 =>
  hgR 7 v9 2 fun v10 =>
  hgR 1 v10 1 fun v11 =>
  haI 20 v11 l6 fun v12 =>
  hlet ((iorZ ((ishlZ 1 v8)) ((ishlZ 1 v12)))) fun (w13 : Int) =>
  hif (((iandZ l3 w13)) = 0) (
m_X4_reachOf_L106 k12 (m_X4_reachOf_L30 k12 n) l0 l1 l2 l3 l4 l5 l6) (
hif (l6 = l2) (
m_X4_reachOf_L101 k12 (m_X4_reachOf_L30 k12 n) l0 l1 l2 l3 l4 l5 l6 w13) (
hcallV 4 l0 (m_X4_leftTo l0 l1 l6) fun v14 =>
  hif (v14 ≤ 0) (
m_X4_reachOf_L106 k12 (m_X4_reachOf_L30 k12 n) l0 l1 l2 l3 l4 l5 l6) (
m_X4_reachOf_L101 k12 (m_X4_reachOf_L30 k12 n) l0 l1 l2 l3 l4 l5 l6 w13))))
def m_X4_reachOf_L12 : Nat → Nat → Int → Int → Int → Int → hM
  | 0, _, _, _, _, _ => hfail
  | n + 1, l0, l1, l2, l3, l4 =>
    hgR 4 l0 0 fun v1 =>
  hgI 7 v1 0 fun v2 =>
  hif (l4 ≥ v2) (
m_X4_reachOf_L127 l3) (
hlet l3 fun (w3 : Int) =>
  hlet (0 : Int) fun (w4 : Int) =>
  m_X4_reachOf_L30 (m_X4_reachOf_L12 n) 1000000000 l0 l1 l2 l3 l4 w3 w4)
def m_X4_reachOf (l0 : Nat) (l1 : Int) (l2 : Int) : hM :=
  hgR 4 l0 2 fun v1 =>
  haI 20 v1 l1 fun v2 =>
  hlet ((ishlZ 1 v2)) fun (w3 : Int) =>
  hlet (1 : Int) fun (w4 : Int) =>
  m_X4_reachOf_L12 1000000000 l0 l1 l2 w3 w4
set_option maxRecDepth 4000 in
theorem z_X4_reachOf_L127 (d : Nat) (hd : 2 ≤ d) {C : hCx} (K : hCtx C.1 C.2.2.1 d 0 0 "reachOf" C) (X : hOK C cX4_reachOf RX4 8 (some .int)) (l3 : Int) (h3 : inI l3) : hSim C (some .int) 0 0 8 127 [(3, vI l3)] [] 0 0 (m_X4_reachOf_L127 l3) := by
  obtain ⟨⟨hf, hlo⟩, ⟨hc1, hc2⟩, hf1, hl1⟩ := K_room K (by omega)
  have hcs : 0 ≤ C.2.2.2.2.1.cells ∧ 0 ≤ C.2.2.2.2.1.slots := ⟨Nat.zero_le _, Nat.zero_le _⟩
  unfold m_X4_reachOf_L127
  refine s_iload_n (j := 0) (pc2 := 128) X dX4_reachOf_127 rfl rfl ?_
  exact s_iret X dX4_reachOf_128 h3
set_option maxRecDepth 4000 in
theorem z_X4_reachOf_L106 (d : Nat) (hd : 2 ≤ d) {C : hCx} (K : hCtx C.1 C.2.2.1 d 0 0 "reachOf" C) (X : hOK C cX4_reachOf RX4 8 (some .int)) (k12 : Nat → Int → Int → Int → Int → hM) (hk12 : ∀ (l0 : Nat) (l1 : Int) (l2 : Int) (l3 : Int) (l4 : Int), inI l1 → inI l2 → inI l3 → inI l4 → hSim C (some .int) 0 0 8 12 [(0, vR C.1.1 l0), (1, vI l1), (2, vI l2), (3, vI l3), (4, vI l4)] [] 0 0 (k12 l0 l1 l2 l3 l4)) (k30 : Nat → Int → Int → Int → Int → Int → Int → hM) (hk30 : ∀ (l0 : Nat) (l1 : Int) (l2 : Int) (l3 : Int) (l4 : Int) (l5 : Int) (l6 : Int), inI l1 → inI l2 → inI l3 → inI l4 → inI l5 → inI l6 → hSim C (some .int) 0 0 8 30 [(0, vR C.1.1 l0), (1, vI l1), (2, vI l2), (3, vI l3), (4, vI l4), (5, vI l5), (6, vI l6)] [] 0 0 (k30 l0 l1 l2 l3 l4 l5 l6)) (l0 : Nat) (l1 : Int) (l2 : Int) (l3 : Int) (l4 : Int) (l5 : Int) (l6 : Int) (h1 : inI l1) (h2 : inI l2) (h3 : inI l3) (h4 : inI l4) (h5 : inI l5) (h6 : inI l6) : hSim C (some .int) 0 0 8 106 [(0, vR C.1.1 l0), (1, vI l1), (2, vI l2), (3, vI l3), (4, vI l4), (5, vI l5), (6, vI l6)] [] 0 0 (m_X4_reachOf_L106 k12 k30 l0 l1 l2 l3 l4 l5 l6) := by
  obtain ⟨⟨hf, hlo⟩, ⟨hc1, hc2⟩, hf1, hl1⟩ := K_room K (by omega)
  have hcs : 0 ≤ C.2.2.2.2.1.cells ∧ 0 ≤ C.2.2.2.2.1.slots := ⟨Nat.zero_le _, Nat.zero_le _⟩
  unfold m_X4_reachOf_L106
  refine s_iinc (j := 6) (pc2 := 109) X dX4_reachOf_106 rfl (by decide) rfl rfl rfl cat1_I (fun w1 hw1 => ?_)
  refine s_goto (pc2 := 30) X dX4_reachOf_109 (by decide) ?_
  refine s_sub (lv2 := [(0, vR C.1.1 l0), (1, vI l1), (2, vI l2), (3, vI l3), (4, vI l4), (5, vI l5), (6, vI w1)]) [1, 2, 3, 4, 5, 6, 0] rfl ?_
  exact hk30 l0 l1 l2 l3 l4 l5 w1 h1 h2 h3 h4 h5 hw1
set_option maxRecDepth 4000 in
theorem z_X4_reachOf_L101 (d : Nat) (hd : 2 ≤ d) {C : hCx} (K : hCtx C.1 C.2.2.1 d 0 0 "reachOf" C) (X : hOK C cX4_reachOf RX4 8 (some .int)) (k12 : Nat → Int → Int → Int → Int → hM) (hk12 : ∀ (l0 : Nat) (l1 : Int) (l2 : Int) (l3 : Int) (l4 : Int), inI l1 → inI l2 → inI l3 → inI l4 → hSim C (some .int) 0 0 8 12 [(0, vR C.1.1 l0), (1, vI l1), (2, vI l2), (3, vI l3), (4, vI l4)] [] 0 0 (k12 l0 l1 l2 l3 l4)) (k30 : Nat → Int → Int → Int → Int → Int → Int → hM) (hk30 : ∀ (l0 : Nat) (l1 : Int) (l2 : Int) (l3 : Int) (l4 : Int) (l5 : Int) (l6 : Int), inI l1 → inI l2 → inI l3 → inI l4 → inI l5 → inI l6 → hSim C (some .int) 0 0 8 30 [(0, vR C.1.1 l0), (1, vI l1), (2, vI l2), (3, vI l3), (4, vI l4), (5, vI l5), (6, vI l6)] [] 0 0 (k30 l0 l1 l2 l3 l4 l5 l6)) (l0 : Nat) (l1 : Int) (l2 : Int) (l3 : Int) (l4 : Int) (l5 : Int) (l6 : Int) (l7 : Int) (h1 : inI l1) (h2 : inI l2) (h3 : inI l3) (h4 : inI l4) (h5 : inI l5) (h6 : inI l6) (h7 : inI l7) : hSim C (some .int) 0 0 8 101 [(0, vR C.1.1 l0), (1, vI l1), (2, vI l2), (3, vI l3), (4, vI l4), (5, vI l5), (6, vI l6), (7, vI l7)] [] 0 0 (m_X4_reachOf_L101 k12 k30 l0 l1 l2 l3 l4 l5 l6 l7) := by
  obtain ⟨⟨hf, hlo⟩, ⟨hc1, hc2⟩, hf1, hl1⟩ := K_room K (by omega)
  have hcs : 0 ≤ C.2.2.2.2.1.cells ∧ 0 ≤ C.2.2.2.2.1.slots := ⟨Nat.zero_le _, Nat.zero_le _⟩
  unfold m_X4_reachOf_L101
  refine s_iload_n (j := 3) (pc2 := 102) X dX4_reachOf_101 rfl rfl ?_
  refine s_iload (j := 7) (pc2 := 104) X dX4_reachOf_102 rfl rfl ?_
  refine s_ior (pc2 := 105) X dX4_reachOf_104 rfl ?_
  refine s_istore_n (pc2 := 106) X dX4_reachOf_105 rfl (by decide) rfl rfl cat1_I (iorZ_in _ _) (fun w1 hw1 => ?_)
  refine s_sub (lv2 := [(0, vR C.1.1 l0), (1, vI l1), (2, vI l2), (3, vI w1), (4, vI l4), (5, vI l5), (6, vI l6)]) [1, 2, 3, 0, 4, 5, 6] rfl ?_
  exact z_X4_reachOf_L106 d hd K X k12 hk12 k30 hk30 l0 l1 l2 w1 l4 l5 l6 h1 h2 hw1 h4 h5 h6
set_option maxRecDepth 4000 in
theorem z_X4_reachOf_L30 (d : Nat) (hd : 2 ≤ d) {C : hCx} (K : hCtx C.1 C.2.2.1 d 0 0 "reachOf" C) (X : hOK C cX4_reachOf RX4 8 (some .int)) (k12 : Nat → Int → Int → Int → Int → hM) (hk12 : ∀ (l0 : Nat) (l1 : Int) (l2 : Int) (l3 : Int) (l4 : Int), inI l1 → inI l2 → inI l3 → inI l4 → hSim C (some .int) 0 0 8 12 [(0, vR C.1.1 l0), (1, vI l1), (2, vI l2), (3, vI l3), (4, vI l4)] [] 0 0 (k12 l0 l1 l2 l3 l4)) : ∀ (n : Nat) (l0 : Nat) (l1 : Int) (l2 : Int) (l3 : Int) (l4 : Int) (l5 : Int) (l6 : Int) (h1 : inI l1) (h2 : inI l2) (h3 : inI l3) (h4 : inI l4) (h5 : inI l5) (h6 : inI l6), hSim C (some .int) 0 0 8 30 [(0, vR C.1.1 l0), (1, vI l1), (2, vI l2), (3, vI l3), (4, vI l4), (5, vI l5), (6, vI l6)] [] 0 0 (m_X4_reachOf_L30 k12 n l0 l1 l2 l3 l4 l5 l6) := by
  obtain ⟨⟨hf, hlo⟩, ⟨hc1, hc2⟩, hf1, hl1⟩ := K_room K (by omega)
  have hcs : 0 ≤ C.2.2.2.2.1.cells ∧ 0 ≤ C.2.2.2.2.1.slots := ⟨Nat.zero_le _, Nat.zero_le _⟩
  intro n
  induction n with
  | zero => intros; exact s_none (fun _ => rfl)
  | succ n ih =>
    intro l0 l1 l2 l3 l4 l5 l6 h1 h2 h3 h4 h5 h6
    unfold m_X4_reachOf_L30
    refine s_iload (j := 6) (pc2 := 32) X dX4_reachOf_30 rfl rfl ?_
    refine s_aload_n (j := 0) (pc2 := 33) X dX4_reachOf_32 rfl rfl ?_
    refine s_getR (pc2 := 36) X dX4_reachOf_33 rfl fl_RX4_28 rfl (fun v1 => ?_)
    refine s_getR (pc2 := 39) X dX4_reachOf_36 rfl fl_RX4_55 rfl (fun v2 => ?_)
    refine s_getI (pc2 := 42) X dX4_reachOf_39 rfl fl_RX4_59 rfl (fun v3 hv3 => ?_)
    refine s_icge (tgt := 112) X dX4_reachOf_42 (by decide) rfl h6 hv3 ?_ ?_
    · refine s_iload_n (j := 3) (pc2 := 113) X dX4_reachOf_112 rfl rfl ?_
      refine s_iload (j := 5) (pc2 := 115) X dX4_reachOf_113 rfl rfl ?_
      refine s_icne (tgt := 121) X dX4_reachOf_115 (by decide) rfl h3 h5 ?_ ?_
      · refine s_iinc (j := 4) (pc2 := 124) X dX4_reachOf_121 rfl (by decide) rfl rfl rfl cat1_I (fun w4 hw4 => ?_)
        refine s_goto (pc2 := 12) X dX4_reachOf_124 (by decide) ?_
        refine s_sub (lv2 := [(0, vR C.1.1 l0), (1, vI l1), (2, vI l2), (3, vI l3), (4, vI w4)]) [1, 2, 3, 4, 0] rfl ?_
        exact hk12 l0 l1 l2 l3 w4 h1 h2 h3 hw4
      · refine s_goto (pc2 := 127) X dX4_reachOf_118 (by decide) ?_
        refine s_sub (lv2 := [(3, vI l3)]) [3] rfl ?_
        exact z_X4_reachOf_L127 d hd K X l3 h3
    · refine s_iconst (n := 1) (pc2 := 46) X dX4_reachOf_45 rfl ?_
      refine s_aload_n (j := 0) (pc2 := 47) X dX4_reachOf_46 rfl rfl ?_
      refine s_getR (pc2 := 50) X dX4_reachOf_47 rfl fl_RX4_28 rfl (fun v5 => ?_)
      refine s_getR (pc2 := 53) X dX4_reachOf_50 rfl fl_RX4_55 rfl (fun v6 => ?_)
      refine s_getR (pc2 := 56) X dX4_reachOf_53 rfl fl_RX4_119 rfl (fun v7 => ?_)
      refine s_iload (j := 6) (pc2 := 58) X dX4_reachOf_56 rfl rfl ?_
      refine s_iald (pc2 := 59) X dX4_reachOf_58 rfl (fun v8 hv8 => ?_)
      refine s_ishl (pc2 := 60) X dX4_reachOf_59 rfl ?_
      refine s_iconst (n := 1) (pc2 := 61) X dX4_reachOf_60 rfl ?_
      refine s_aload_n (j := 0) (pc2 := 62) X dX4_reachOf_61 rfl rfl ?_
      refine s_getR (pc2 := 65) X dX4_reachOf_62 rfl fl_RX4_28 rfl (fun v9 => ?_)
      refine s_getR (pc2 := 68) X dX4_reachOf_65 rfl fl_RX4_55 rfl (fun v10 => ?_)
      refine s_getR (pc2 := 71) X dX4_reachOf_68 rfl fl_RX4_122 rfl (fun v11 => ?_)
      refine s_iload (j := 6) (pc2 := 73) X dX4_reachOf_71 rfl rfl ?_
      refine s_iald (pc2 := 74) X dX4_reachOf_73 rfl (fun v12 hv12 => ?_)
      refine s_ishl (pc2 := 75) X dX4_reachOf_74 rfl ?_
      refine s_ior (pc2 := 76) X dX4_reachOf_75 rfl ?_
      refine s_istore (pc2 := 78) X dX4_reachOf_76 rfl (by decide) rfl rfl cat1_I (iorZ_in _ _) (fun w13 hw13 => ?_)
      refine s_iload_n (j := 4) (pc2 := 79) X dX4_reachOf_78 rfl rfl ?_
      refine s_iload (j := 0) (pc2 := 81) X dX4_reachOf_79 rfl rfl ?_
      refine s_iand (pc2 := 82) X dX4_reachOf_81 rfl ?_
      refine s_ifeq (tgt := 106) X dX4_reachOf_82 (by decide) rfl (iandZ_in _ _) ?_ ?_
      · refine s_sub (lv2 := [(0, vR C.1.1 l0), (1, vI l1), (2, vI l2), (3, vI l3), (4, vI l4), (5, vI l5), (6, vI l6)]) [1, 2, 3, 4, 5, 6, 7] rfl ?_
        exact z_X4_reachOf_L106 d hd K X k12 hk12 (m_X4_reachOf_L30 k12 n) ih l0 l1 l2 l3 l4 l5 l6 h1 h2 h3 h4 h5 h6
      · refine s_iload (j := 7) (pc2 := 87) X dX4_reachOf_85 rfl rfl ?_
        refine s_iload_n (j := 3) (pc2 := 88) X dX4_reachOf_87 rfl rfl ?_
        refine s_iceq (tgt := 101) X dX4_reachOf_88 (by decide) rfl h6 h2 ?_ ?_
        · refine s_sub (lv2 := [(0, vR C.1.1 l0), (1, vI l1), (2, vI l2), (3, vI l3), (4, vI l4), (5, vI l5), (6, vI l6), (7, vI w13)]) [1, 2, 3, 4, 5, 6, 7, 0] rfl ?_
          exact z_X4_reachOf_L101 d hd K X k12 hk12 (m_X4_reachOf_L30 k12 n) ih l0 l1 l2 l3 l4 l5 l6 w13 h1 h2 h3 h4 h5 h6 hw13
        · refine s_aload_n (j := 1) (pc2 := 92) X dX4_reachOf_91 rfl rfl ?_
          refine s_iload_n (j := 2) (pc2 := 93) X dX4_reachOf_92 rfl rfl ?_
          refine s_iload (j := 7) (pc2 := 95) X dX4_reachOf_93 rfl rfl ?_
          refine s_callVI (d2 := d - 1) (As := [vI l1, vI l6]) (st := []) (pc2 := 98) X dX4_reachOf_95 rfl ml_RX4_64 im_X4_leftTo se_X4_leftTo kX4 rfl (c_X4_leftTo (d - 1) (by omega) C.1 C.2.2.1 l0 l1 l6 h1 h6) hy_X4_leftTo rfl rfl hf hlo (st_room (Nat.le_of_ble_eq_true rfl)) hcs (fun v14 hv14 => ?_)
          refine s_ifle (tgt := 106) X dX4_reachOf_98 (by decide) rfl hv14 ?_ ?_
          · refine s_sub (lv2 := [(0, vR C.1.1 l0), (1, vI l1), (2, vI l2), (3, vI l3), (4, vI l4), (5, vI l5), (6, vI l6)]) [1, 2, 3, 4, 5, 6, 7] rfl ?_
            exact z_X4_reachOf_L106 d hd K X k12 hk12 (m_X4_reachOf_L30 k12 n) ih l0 l1 l2 l3 l4 l5 l6 h1 h2 h3 h4 h5 h6
          · refine s_sub (lv2 := [(0, vR C.1.1 l0), (1, vI l1), (2, vI l2), (3, vI l3), (4, vI l4), (5, vI l5), (6, vI l6), (7, vI w13)]) [1, 2, 3, 4, 5, 6, 7, 0] rfl ?_
            exact z_X4_reachOf_L101 d hd K X k12 hk12 (m_X4_reachOf_L30 k12 n) ih l0 l1 l2 l3 l4 l5 l6 w13 h1 h2 h3 h4 h5 h6 hw13
set_option maxRecDepth 4000 in
theorem z_X4_reachOf_L12 (d : Nat) (hd : 2 ≤ d) {C : hCx} (K : hCtx C.1 C.2.2.1 d 0 0 "reachOf" C) (X : hOK C cX4_reachOf RX4 8 (some .int)) : ∀ (n : Nat) (l0 : Nat) (l1 : Int) (l2 : Int) (l3 : Int) (l4 : Int) (h1 : inI l1) (h2 : inI l2) (h3 : inI l3) (h4 : inI l4), hSim C (some .int) 0 0 8 12 [(0, vR C.1.1 l0), (1, vI l1), (2, vI l2), (3, vI l3), (4, vI l4)] [] 0 0 (m_X4_reachOf_L12 n l0 l1 l2 l3 l4) := by
  obtain ⟨⟨hf, hlo⟩, ⟨hc1, hc2⟩, hf1, hl1⟩ := K_room K (by omega)
  have hcs : 0 ≤ C.2.2.2.2.1.cells ∧ 0 ≤ C.2.2.2.2.1.slots := ⟨Nat.zero_le _, Nat.zero_le _⟩
  intro n
  induction n with
  | zero => intros; exact s_none (fun _ => rfl)
  | succ n ih =>
    intro l0 l1 l2 l3 l4 h1 h2 h3 h4
    unfold m_X4_reachOf_L12
    refine s_iload (j := 4) (pc2 := 14) X dX4_reachOf_12 rfl rfl ?_
    refine s_aload_n (j := 0) (pc2 := 15) X dX4_reachOf_14 rfl rfl ?_
    refine s_getR (pc2 := 18) X dX4_reachOf_15 rfl fl_RX4_28 rfl (fun v1 => ?_)
    refine s_getI (pc2 := 21) X dX4_reachOf_18 rfl fl_RX4_116 rfl (fun v2 hv2 => ?_)
    refine s_icge (tgt := 127) X dX4_reachOf_21 (by decide) rfl h4 hv2 ?_ ?_
    · refine s_sub (lv2 := [(3, vI l3)]) [3] rfl ?_
      exact z_X4_reachOf_L127 d hd K X l3 h3
    · refine s_iload_n (j := 3) (pc2 := 25) X dX4_reachOf_24 rfl rfl ?_
      refine s_istore (pc2 := 27) X dX4_reachOf_25 rfl (by decide) rfl rfl cat1_I h3 (fun w3 hw3 => ?_)
      refine s_iconst (n := 0) (pc2 := 28) X dX4_reachOf_27 rfl ?_
      refine s_istore (pc2 := 30) X dX4_reachOf_28 rfl (by decide) rfl rfl cat1_I (inI_c 0 rfl) (fun w4 hw4 => ?_)
      refine s_sub (lv2 := [(0, vR C.1.1 l0), (1, vI l1), (2, vI l2), (3, vI l3), (4, vI l4), (5, vI w3), (6, vI w4)]) [2, 3, 4, 5, 6, 1, 0] rfl ?_
      exact z_X4_reachOf_L30 d hd K X (m_X4_reachOf_L12 n) ih 1000000000 l0 l1 l2 l3 l4 w3 w4 h1 h2 h3 h4 hw3 hw4
set_option maxRecDepth 4000 in
set_option maxHeartbeats 20000000 in
theorem z_X4_reachOf (d : Nat) (hd : 2 ≤ d) {C : hCx} (K : hCtx C.1 C.2.2.1 d 0 0 "reachOf" C) (X : hOK C cX4_reachOf RX4 8 (some .int)) (l0 : Nat) (l1 : Int) (l2 : Int) (h1 : inI l1) (h2 : inI l2) : hSim C (some .int) 0 0 8 0 [(0, vR C.1.1 l0), (1, vI l1), (2, vI l2)] [] 0 0 (m_X4_reachOf l0 l1 l2) := by
  obtain ⟨⟨hf, hlo⟩, ⟨hc1, hc2⟩, hf1, hl1⟩ := K_room K (by omega)
  have hcs : 0 ≤ C.2.2.2.2.1.cells ∧ 0 ≤ C.2.2.2.2.1.slots := ⟨Nat.zero_le _, Nat.zero_le _⟩
  unfold m_X4_reachOf
  refine s_iconst (n := 1) (pc2 := 1) X dX4_reachOf_0 rfl ?_
  refine s_aload_n (j := 0) (pc2 := 2) X dX4_reachOf_1 rfl rfl ?_
  refine s_getR (pc2 := 5) X dX4_reachOf_2 rfl fl_RX4_15 rfl (fun v1 => ?_)
  refine s_iload_n (j := 1) (pc2 := 6) X dX4_reachOf_5 rfl rfl ?_
  refine s_iald (pc2 := 7) X dX4_reachOf_6 rfl (fun v2 hv2 => ?_)
  refine s_ishl (pc2 := 8) X dX4_reachOf_7 rfl ?_
  refine s_istore_n (pc2 := 9) X dX4_reachOf_8 rfl (by decide) rfl rfl cat1_I (ishlZ_in _ _) (fun w3 hw3 => ?_)
  refine s_iconst (n := 1) (pc2 := 10) X dX4_reachOf_9 rfl ?_
  refine s_istore (pc2 := 12) X dX4_reachOf_10 rfl (by decide) rfl rfl cat1_I (inI_c 1 rfl) (fun w4 hw4 => ?_)
  refine s_sub (lv2 := [(0, vR C.1.1 l0), (1, vI l1), (2, vI l2), (3, vI w3), (4, vI w4)]) [2, 3, 4, 1, 0] rfl ?_
  exact z_X4_reachOf_L12 d hd K X 1000000000 l0 l1 l2 w3 w4 h1 h2 hw3 hw4
theorem c_X4_reachOf (d : Nat) (hd : 2 ≤ d) (G : hG) (l : Launch) (l0 : Nat) (l1 : Int) (l2 : Int) (h1 : inI l1) (h2 : inI l2) : hMet G l yX4_reachOf cX4_reachOf 8 (some .int) d 0 0 [vR G.1 l0, vI l1, vI l2] (m_X4_reachOf l0 l1 l2) := by
  refine hMet.of (lv := [(0, vR G.1 l0), (1, vI l1), (2, vI l2)]) (by decide +kernel) (by simp [lg_sl, vR_cat, vI_cat, vL_cat, vS_cat2, vT_cat2]) (by simp [lv_args, vR_cat, vI_cat, vL_cat, vS_cat2, vT_cat2]) (fun C K X => ?_)
  obtain ⟨rfl, rfl, K⟩ := K
  exact z_X4_reachOf d hd ⟨rfl, rfl, K⟩ X l0 l1 l2 h1 h2
def m_X4_measure_L117 (k13 : Nat → Int → Nat → Int → hM) (k28 : Nat → Int → Nat → Int → Int → hM) (l0 : Nat) (l1 : Int) (l3 : Nat) (l4 : Int) (l5 : Int) : hM :=
  hlet (w32 (l5 + 1)) fun (w1 : Int) =>
  k28 l0 l1 l3 l4 w1
def m_X4_measure_L28 (k13 : Nat → Int → Nat → Int → hM) : Nat → Nat → Int → Nat → Int → Int → hM
  | 0, _, _, _, _, _ => hfail
  | n + 1, l0, l1, l3, l4, l5 =>
    hgR 4 l0 0 fun v1 =>
  hgR 7 v1 2 fun v2 =>
  hgI 1 v2 3 fun v3 =>
  hif (l5 ≥ v3) (
hlet (w32 (l4 + 1)) fun (w4 : Int) =>
  k13 l0 l1 l3 w4) (
hcallV 4 l0 (m_X4_leftTo l0 l1 l5) fun v5 =>
  hif (v5 ≤ 0) (
m_X4_measure_L117 k13 (m_X4_measure_L28 k13 n) l0 l1 l3 l4 l5) (
hgR 4 l0 0 fun v6 =>
  hgR 7 v6 2 fun v7 =>
  hgR 1 v7 0 fun v8 =>
  haI 20 v8 l5 fun v9 =>
  hlet v9 fun (w10 : Int) =>
  hgR 4 l0 0 fun v11 =>
  hgR 7 v11 2 fun v12 =>
  hgR 1 v12 1 fun v13 =>
  haI 20 v13 l5 fun v14 =>
  hlet v14 fun (w15 : Int) =>
  haI 20 l3 w10 fun v16 =>
  haI 20 l3 w15 fun v17 =>
  hcall (m_J9_min_7cf53 v16 ((w32 (v17 + 1)))) fun v18 =>
  hsI 20 l3 w10 v18 <|
  haI 20 l3 w15 fun v19 =>
  haI 20 l3 w10 fun v20 =>
  hcall (m_J9_min_7cf53 v19 ((w32 (v20 + 1)))) fun v21 =>
  hsI 20 l3 w15 v21 <|
  m_X4_measure_L117 k13 (m_X4_measure_L28 k13 n) l0 l1 l3 l4 l5))
def m_X4_measure_L13 : Nat → Nat → Int → Nat → Int → hM
  | 0, _, _, _, _ => hfail
  | n + 1, l0, l1, l3, l4 =>
    hgR 4 l0 0 fun v1 =>
  hgI 7 v1 0 fun v2 =>
  hif (l4 ≥ v2) (
hret 0) (
hlet (0 : Int) fun (w3 : Int) =>
  m_X4_measure_L28 (m_X4_measure_L13 n) 1000000000 l0 l1 l3 l4 w3)
def m_X4_measure (l0 : Nat) (l1 : Int) (l2 : Int) (l3 : Nat) : hM :=
  hcall (m_J7_fill_53178 l3 99) fun _ =>
  hsI 20 l3 l2 0 <|
  hlet (1 : Int) fun (w1 : Int) =>
  m_X4_measure_L13 1000000000 l0 l1 l3 w1
set_option maxRecDepth 4000 in
theorem z_X4_measure_L117 (d : Nat) (hd : 2 ≤ d) {C : hCx} (K : hCtx C.1 C.2.2.1 d 0 0 "measure" C) (X : hOK C cX4_measure RX4 8 none) (k13 : Nat → Int → Nat → Int → hM) (hk13 : ∀ (l0 : Nat) (l1 : Int) (l3 : Nat) (l4 : Int), inI l1 → inI l4 → hSim C none 0 0 8 13 [(0, vR C.1.1 l0), (1, vI l1), (3, vR C.1.1 l3), (4, vI l4)] [] 0 0 (k13 l0 l1 l3 l4)) (k28 : Nat → Int → Nat → Int → Int → hM) (hk28 : ∀ (l0 : Nat) (l1 : Int) (l3 : Nat) (l4 : Int) (l5 : Int), inI l1 → inI l4 → inI l5 → hSim C none 0 0 8 28 [(0, vR C.1.1 l0), (1, vI l1), (3, vR C.1.1 l3), (4, vI l4), (5, vI l5)] [] 0 0 (k28 l0 l1 l3 l4 l5)) (l0 : Nat) (l1 : Int) (l3 : Nat) (l4 : Int) (l5 : Int) (h1 : inI l1) (h4 : inI l4) (h5 : inI l5) : hSim C none 0 0 8 117 [(0, vR C.1.1 l0), (1, vI l1), (3, vR C.1.1 l3), (4, vI l4), (5, vI l5)] [] 0 0 (m_X4_measure_L117 k13 k28 l0 l1 l3 l4 l5) := by
  obtain ⟨⟨hf, hlo⟩, ⟨hc1, hc2⟩, hf1, hl1⟩ := K_room K (by omega)
  have hcs : 0 ≤ C.2.2.2.2.1.cells ∧ 0 ≤ C.2.2.2.2.1.slots := ⟨Nat.zero_le _, Nat.zero_le _⟩
  unfold m_X4_measure_L117
  refine s_iinc (j := 4) (pc2 := 120) X dX4_measure_117 rfl (by decide) rfl rfl rfl cat1_I (fun w1 hw1 => ?_)
  refine s_goto (pc2 := 28) X dX4_measure_120 (by decide) ?_
  refine s_sub (lv2 := [(0, vR C.1.1 l0), (1, vI l1), (3, vR C.1.1 l3), (4, vI l4), (5, vI w1)]) [1, 2, 3, 4, 0] rfl ?_
  exact hk28 l0 l1 l3 l4 w1 h1 h4 hw1
set_option maxRecDepth 4000 in
theorem z_X4_measure_L28 (d : Nat) (hd : 2 ≤ d) {C : hCx} (K : hCtx C.1 C.2.2.1 d 0 0 "measure" C) (X : hOK C cX4_measure RX4 8 none) (k13 : Nat → Int → Nat → Int → hM) (hk13 : ∀ (l0 : Nat) (l1 : Int) (l3 : Nat) (l4 : Int), inI l1 → inI l4 → hSim C none 0 0 8 13 [(0, vR C.1.1 l0), (1, vI l1), (3, vR C.1.1 l3), (4, vI l4)] [] 0 0 (k13 l0 l1 l3 l4)) : ∀ (n : Nat) (l0 : Nat) (l1 : Int) (l3 : Nat) (l4 : Int) (l5 : Int) (h1 : inI l1) (h4 : inI l4) (h5 : inI l5), hSim C none 0 0 8 28 [(0, vR C.1.1 l0), (1, vI l1), (3, vR C.1.1 l3), (4, vI l4), (5, vI l5)] [] 0 0 (m_X4_measure_L28 k13 n l0 l1 l3 l4 l5) := by
  obtain ⟨⟨hf, hlo⟩, ⟨hc1, hc2⟩, hf1, hl1⟩ := K_room K (by omega)
  have hcs : 0 ≤ C.2.2.2.2.1.cells ∧ 0 ≤ C.2.2.2.2.1.slots := ⟨Nat.zero_le _, Nat.zero_le _⟩
  intro n
  induction n with
  | zero => intros; exact s_none (fun _ => rfl)
  | succ n ih =>
    intro l0 l1 l3 l4 l5 h1 h4 h5
    unfold m_X4_measure_L28
    refine s_iload (j := 4) (pc2 := 30) X dX4_measure_28 rfl rfl ?_
    refine s_aload_n (j := 0) (pc2 := 31) X dX4_measure_30 rfl rfl ?_
    refine s_getR (pc2 := 34) X dX4_measure_31 rfl fl_RX4_28 rfl (fun v1 => ?_)
    refine s_getR (pc2 := 37) X dX4_measure_34 rfl fl_RX4_55 rfl (fun v2 => ?_)
    refine s_getI (pc2 := 40) X dX4_measure_37 rfl fl_RX4_59 rfl (fun v3 hv3 => ?_)
    refine s_icge (tgt := 123) X dX4_measure_40 (by decide) rfl h5 hv3 ?_ ?_
    · refine s_iinc (j := 3) (pc2 := 126) X dX4_measure_123 rfl (by decide) rfl rfl rfl cat1_R (fun w4 hw4 => ?_)
      refine s_goto (pc2 := 13) X dX4_measure_126 (by decide) ?_
      refine s_sub (lv2 := [(0, vR C.1.1 l0), (1, vI l1), (3, vR C.1.1 l3), (4, vI w4)]) [1, 2, 3, 0] rfl ?_
      exact hk13 l0 l1 l3 w4 h1 hw4
    · refine s_aload_n (j := 0) (pc2 := 44) X dX4_measure_43 rfl rfl ?_
      refine s_iload_n (j := 1) (pc2 := 45) X dX4_measure_44 rfl rfl ?_
      refine s_iload (j := 4) (pc2 := 47) X dX4_measure_45 rfl rfl ?_
      refine s_callVI (d2 := d - 1) (As := [vI l1, vI l5]) (st := []) (pc2 := 50) X dX4_measure_47 rfl ml_RX4_64 im_X4_leftTo se_X4_leftTo kX4 rfl (c_X4_leftTo (d - 1) (by omega) C.1 C.2.2.1 l0 l1 l5 h1 h5) hy_X4_leftTo rfl rfl hf hlo (st_room (Nat.le_of_ble_eq_true rfl)) hcs (fun v5 hv5 => ?_)
      refine s_ifle (tgt := 117) X dX4_measure_50 (by decide) rfl hv5 ?_ ?_
      · exact z_X4_measure_L117 d hd K X k13 hk13 (m_X4_measure_L28 k13 n) ih l0 l1 l3 l4 l5 h1 h4 h5
      · refine s_aload_n (j := 0) (pc2 := 54) X dX4_measure_53 rfl rfl ?_
        refine s_getR (pc2 := 57) X dX4_measure_54 rfl fl_RX4_28 rfl (fun v6 => ?_)
        refine s_getR (pc2 := 60) X dX4_measure_57 rfl fl_RX4_55 rfl (fun v7 => ?_)
        refine s_getR (pc2 := 63) X dX4_measure_60 rfl fl_RX4_119 rfl (fun v8 => ?_)
        refine s_iload (j := 4) (pc2 := 65) X dX4_measure_63 rfl rfl ?_
        refine s_iald (pc2 := 66) X dX4_measure_65 rfl (fun v9 hv9 => ?_)
        refine s_istore (pc2 := 68) X dX4_measure_66 rfl (by decide) rfl rfl cat1_I hv9 (fun w10 hw10 => ?_)
        refine s_aload_n (j := 1) (pc2 := 69) X dX4_measure_68 rfl rfl ?_
        refine s_getR (pc2 := 72) X dX4_measure_69 rfl fl_RX4_28 rfl (fun v11 => ?_)
        refine s_getR (pc2 := 75) X dX4_measure_72 rfl fl_RX4_55 rfl (fun v12 => ?_)
        refine s_getR (pc2 := 78) X dX4_measure_75 rfl fl_RX4_122 rfl (fun v13 => ?_)
        refine s_iload (j := 5) (pc2 := 80) X dX4_measure_78 rfl rfl ?_
        refine s_iald (pc2 := 81) X dX4_measure_80 rfl (fun v14 hv14 => ?_)
        refine s_istore (pc2 := 83) X dX4_measure_81 rfl (by decide) rfl rfl cat1_I hv14 (fun w15 hw15 => ?_)
        refine s_aload_n (j := 4) (pc2 := 84) X dX4_measure_83 rfl rfl ?_
        refine s_iload (j := 1) (pc2 := 86) X dX4_measure_84 rfl rfl ?_
        refine s_aload_n (j := 4) (pc2 := 87) X dX4_measure_86 rfl rfl ?_
        refine s_iload (j := 1) (pc2 := 89) X dX4_measure_87 rfl rfl ?_
        refine s_iald (pc2 := 90) X dX4_measure_89 rfl (fun v16 hv16 => ?_)
        refine s_aload_n (j := 4) (pc2 := 91) X dX4_measure_90 rfl rfl ?_
        refine s_iload (j := 0) (pc2 := 93) X dX4_measure_91 rfl rfl ?_
        refine s_iald (pc2 := 94) X dX4_measure_93 rfl (fun v17 hv17 => ?_)
        refine s_iconst (n := 1) (pc2 := 95) X dX4_measure_94 rfl ?_
        refine s_iadd (pc2 := 96) X dX4_measure_95 rfl ?_
        refine s_callSI (d2 := d - 1) (As := [vI v16, vI ((w32 (v17 + 1)))]) (st := [vI w10, vR C.1.1 l3]) (pc2 := 99) X dX4_measure_96 rfl ml_RX4_89 sm_J9_min_7cf53 (c_J9_min_7cf53 (d - 1) (by omega) C.1 C.2.2.1 v16 ((w32 (v17 + 1))) hv16 (w32_in _)) hy_J9_min_7cf53 rfl rfl hf hlo (st_room (Nat.le_of_ble_eq_true rfl)) hcs (fun v18 hv18 => ?_)
        refine s_iast (pc2 := 100) X dX4_measure_99 rfl hv18 ?_
        refine s_aload_n (j := 4) (pc2 := 101) X dX4_measure_100 rfl rfl ?_
        refine s_iload (j := 0) (pc2 := 103) X dX4_measure_101 rfl rfl ?_
        refine s_aload_n (j := 4) (pc2 := 104) X dX4_measure_103 rfl rfl ?_
        refine s_iload (j := 0) (pc2 := 106) X dX4_measure_104 rfl rfl ?_
        refine s_iald (pc2 := 107) X dX4_measure_106 rfl (fun v19 hv19 => ?_)
        refine s_aload_n (j := 4) (pc2 := 108) X dX4_measure_107 rfl rfl ?_
        refine s_iload (j := 1) (pc2 := 110) X dX4_measure_108 rfl rfl ?_
        refine s_iald (pc2 := 111) X dX4_measure_110 rfl (fun v20 hv20 => ?_)
        refine s_iconst (n := 1) (pc2 := 112) X dX4_measure_111 rfl ?_
        refine s_iadd (pc2 := 113) X dX4_measure_112 rfl ?_
        refine s_callSI (d2 := d - 1) (As := [vI v19, vI ((w32 (v20 + 1)))]) (st := [vI w15, vR C.1.1 l3]) (pc2 := 116) X dX4_measure_113 rfl ml_RX4_89 sm_J9_min_7cf53 (c_J9_min_7cf53 (d - 1) (by omega) C.1 C.2.2.1 v19 ((w32 (v20 + 1))) hv19 (w32_in _)) hy_J9_min_7cf53 rfl rfl hf hlo (st_room (Nat.le_of_ble_eq_true rfl)) hcs (fun v21 hv21 => ?_)
        refine s_iast (pc2 := 117) X dX4_measure_116 rfl hv21 ?_
        refine s_sub (lv2 := [(0, vR C.1.1 l0), (1, vI l1), (3, vR C.1.1 l3), (4, vI l4), (5, vI l5)]) [2, 3, 4, 5, 6] rfl ?_
        exact z_X4_measure_L117 d hd K X k13 hk13 (m_X4_measure_L28 k13 n) ih l0 l1 l3 l4 l5 h1 h4 h5
set_option maxRecDepth 4000 in
theorem z_X4_measure_L13 (d : Nat) (hd : 2 ≤ d) {C : hCx} (K : hCtx C.1 C.2.2.1 d 0 0 "measure" C) (X : hOK C cX4_measure RX4 8 none) : ∀ (n : Nat) (l0 : Nat) (l1 : Int) (l3 : Nat) (l4 : Int) (h1 : inI l1) (h4 : inI l4), hSim C none 0 0 8 13 [(0, vR C.1.1 l0), (1, vI l1), (3, vR C.1.1 l3), (4, vI l4)] [] 0 0 (m_X4_measure_L13 n l0 l1 l3 l4) := by
  obtain ⟨⟨hf, hlo⟩, ⟨hc1, hc2⟩, hf1, hl1⟩ := K_room K (by omega)
  have hcs : 0 ≤ C.2.2.2.2.1.cells ∧ 0 ≤ C.2.2.2.2.1.slots := ⟨Nat.zero_le _, Nat.zero_le _⟩
  intro n
  induction n with
  | zero => intros; exact s_none (fun _ => rfl)
  | succ n ih =>
    intro l0 l1 l3 l4 h1 h4
    unfold m_X4_measure_L13
    refine s_iload (j := 3) (pc2 := 15) X dX4_measure_13 rfl rfl ?_
    refine s_aload_n (j := 0) (pc2 := 16) X dX4_measure_15 rfl rfl ?_
    refine s_getR (pc2 := 19) X dX4_measure_16 rfl fl_RX4_28 rfl (fun v1 => ?_)
    refine s_getI (pc2 := 22) X dX4_measure_19 rfl fl_RX4_116 rfl (fun v2 hv2 => ?_)
    refine s_icge (tgt := 129) X dX4_measure_22 (by decide) rfl h4 hv2 ?_ ?_
    · exact s_ret X dX4_measure_129
    · refine s_iconst (n := 0) (pc2 := 26) X dX4_measure_25 rfl ?_
      refine s_istore (pc2 := 28) X dX4_measure_26 rfl (by decide) rfl rfl cat1_I (inI_c 0 rfl) (fun w3 hw3 => ?_)
      refine s_sub (lv2 := [(0, vR C.1.1 l0), (1, vI l1), (3, vR C.1.1 l3), (4, vI l4), (5, vI w3)]) [1, 2, 3, 4, 0] rfl ?_
      exact z_X4_measure_L28 d hd K X (m_X4_measure_L13 n) ih 1000000000 l0 l1 l3 l4 w3 h1 h4 hw3
set_option maxRecDepth 4000 in
set_option maxHeartbeats 20000000 in
theorem z_X4_measure (d : Nat) (hd : 2 ≤ d) {C : hCx} (K : hCtx C.1 C.2.2.1 d 0 0 "measure" C) (X : hOK C cX4_measure RX4 8 none) (l0 : Nat) (l1 : Int) (l2 : Int) (l3 : Nat) (h1 : inI l1) (h2 : inI l2) : hSim C none 0 0 8 0 [(0, vR C.1.1 l0), (1, vI l1), (2, vI l2), (3, vR C.1.1 l3)] [] 0 0 (m_X4_measure l0 l1 l2 l3) := by
  obtain ⟨⟨hf, hlo⟩, ⟨hc1, hc2⟩, hf1, hl1⟩ := K_room K (by omega)
  have hcs : 0 ≤ C.2.2.2.2.1.cells ∧ 0 ≤ C.2.2.2.2.1.slots := ⟨Nat.zero_le _, Nat.zero_le _⟩
  unfold m_X4_measure
  refine s_aload_n (j := 3) (pc2 := 1) X dX4_measure_0 rfl rfl ?_
  refine s_bipush (n := 99) (pc2 := 3) X dX4_measure_1 rfl rfl ?_
  refine s_callSV (d2 := d - 1) (As := [vR C.1.1 l3, vI 99]) (st := []) (pc2 := 6) X dX4_measure_3 rfl ml_RX4_46 sm_J7_fill_53178 (c_J7_fill_53178 (d - 1) (by omega) C.1 C.2.2.1 l3 99 (inI_c 99 rfl)) hy_J7_fill_53178 rfl rfl hf hlo (st_room (Nat.le_of_ble_eq_true rfl)) hcs (fun _ => ?_)
  refine s_aload_n (j := 3) (pc2 := 7) X dX4_measure_6 rfl rfl ?_
  refine s_iload_n (j := 2) (pc2 := 8) X dX4_measure_7 rfl rfl ?_
  refine s_iconst (n := 0) (pc2 := 9) X dX4_measure_8 rfl ?_
  refine s_iast (pc2 := 10) X dX4_measure_9 rfl (inI_c 0 rfl) ?_
  refine s_iconst (n := 1) (pc2 := 11) X dX4_measure_10 rfl ?_
  refine s_istore (pc2 := 13) X dX4_measure_11 rfl (by decide) rfl rfl cat1_R (inI_c 1 rfl) (fun w1 hw1 => ?_)
  refine s_sub (lv2 := [(0, vR C.1.1 l0), (1, vI l1), (3, vR C.1.1 l3), (4, vI w1)]) [1, 2, 4, 0] rfl ?_
  exact z_X4_measure_L13 d hd K X 1000000000 l0 l1 l3 w1 h1 hw1
theorem c_X4_measure (d : Nat) (hd : 2 ≤ d) (G : hG) (l : Launch) (l0 : Nat) (l1 : Int) (l2 : Int) (l3 : Nat) (h1 : inI l1) (h2 : inI l2) : hMet G l yX4_measure cX4_measure 8 none d 0 0 [vR G.1 l0, vI l1, vI l2, vR G.1 l3] (m_X4_measure l0 l1 l2 l3) := by
  refine hMet.of (lv := [(0, vR G.1 l0), (1, vI l1), (2, vI l2), (3, vR G.1 l3)]) (by decide +kernel) (by simp [lg_sl, vR_cat, vI_cat, vL_cat, vS_cat2, vT_cat2]) (by simp [lv_args, vR_cat, vI_cat, vL_cat, vS_cat2, vT_cat2]) (fun C K X => ?_)
  obtain ⟨rfl, rfl, K⟩ := K
  exact z_X4_measure d hd ⟨rfl, rfl, K⟩ X l0 l1 l2 l3 h1 h2
def m_X4_firstStep_L61 (k10 : Nat → Int → Nat → Int → Int → hM) (l0 : Nat) (l1 : Int) (l2 : Nat) (l3 : Int) (l4 : Int) : hM :=
  hlet (w32 (l4 + 1)) fun (w1 : Int) =>
  k10 l0 l1 l2 l3 w1
def m_X4_firstStep_L10 : Nat → Nat → Int → Nat → Int → Int → hM
  | 0, _, _, _, _, _ => hfail
  | n + 1, l0, l1, l2, l3, l4 =>
    hgR 4 l0 0 fun v1 =>
  hgR 7 v1 2 fun v2 =>
  hgI 1 v2 3 fun v3 =>
  hif (l4 ≥ v3) (
hret ((-1))) (
hcallV 4 l0 (m_X4_canCross l0 l1 l4) fun v4 =>
  hif (v4 = 0) (
m_X4_firstStep_L61 (m_X4_firstStep_L10 n) l0 l1 l2 l3 l4) (
hgR 4 l0 0 fun v5 =>
  hgR 7 v5 2 fun v6 =>
  hcallV 1 v6 (m_X1_across v6 l4 l3) fun v7 =>
  haI 20 l2 v7 fun v8 =>
  haI 20 l2 l3 fun v9 =>
  hif (v8 ≠ ((w32 (v9 - 1)))) (
m_X4_firstStep_L61 (m_X4_firstStep_L10 n) l0 l1 l2 l3 l4) (
hret l4)))
def m_X4_firstStep (l0 : Nat) (l1 : Int) (l2 : Nat) : hM :=
  hgR 4 l0 2 fun v1 =>
  haI 20 v1 l1 fun v2 =>
  hlet v2 fun (w3 : Int) =>
  hlet (0 : Int) fun (w4 : Int) =>
  m_X4_firstStep_L10 1000000000 l0 l1 l2 w3 w4
set_option maxRecDepth 4000 in
theorem z_X4_firstStep_L61 (d : Nat) (hd : 3 ≤ d) {C : hCx} (K : hCtx C.1 C.2.2.1 d 0 0 "firstStep" C) (X : hOK C cX4_firstStep RX4 5 (some .int)) (k10 : Nat → Int → Nat → Int → Int → hM) (hk10 : ∀ (l0 : Nat) (l1 : Int) (l2 : Nat) (l3 : Int) (l4 : Int), inI l1 → inI l3 → inI l4 → hSim C (some .int) 0 0 5 10 [(0, vR C.1.1 l0), (1, vI l1), (2, vR C.1.1 l2), (3, vI l3), (4, vI l4)] [] 0 0 (k10 l0 l1 l2 l3 l4)) (l0 : Nat) (l1 : Int) (l2 : Nat) (l3 : Int) (l4 : Int) (h1 : inI l1) (h3 : inI l3) (h4 : inI l4) : hSim C (some .int) 0 0 5 61 [(0, vR C.1.1 l0), (1, vI l1), (2, vR C.1.1 l2), (3, vI l3), (4, vI l4)] [] 0 0 (m_X4_firstStep_L61 k10 l0 l1 l2 l3 l4) := by
  obtain ⟨⟨hf, hlo⟩, ⟨hc1, hc2⟩, hf1, hl1⟩ := K_room K (by omega)
  have hcs : 0 ≤ C.2.2.2.2.1.cells ∧ 0 ≤ C.2.2.2.2.1.slots := ⟨Nat.zero_le _, Nat.zero_le _⟩
  unfold m_X4_firstStep_L61
  refine s_iinc (j := 4) (pc2 := 64) X dX4_firstStep_61 rfl (by decide) rfl rfl rfl cat1_I (fun w1 hw1 => ?_)
  refine s_goto (pc2 := 10) X dX4_firstStep_64 (by decide) ?_
  refine s_sub (lv2 := [(0, vR C.1.1 l0), (1, vI l1), (2, vR C.1.1 l2), (3, vI l3), (4, vI w1)]) [1, 2, 3, 4, 0] rfl ?_
  exact hk10 l0 l1 l2 l3 w1 h1 h3 hw1
set_option maxRecDepth 4000 in
theorem z_X4_firstStep_L10 (d : Nat) (hd : 3 ≤ d) {C : hCx} (K : hCtx C.1 C.2.2.1 d 0 0 "firstStep" C) (X : hOK C cX4_firstStep RX4 5 (some .int)) : ∀ (n : Nat) (l0 : Nat) (l1 : Int) (l2 : Nat) (l3 : Int) (l4 : Int) (h1 : inI l1) (h3 : inI l3) (h4 : inI l4), hSim C (some .int) 0 0 5 10 [(0, vR C.1.1 l0), (1, vI l1), (2, vR C.1.1 l2), (3, vI l3), (4, vI l4)] [] 0 0 (m_X4_firstStep_L10 n l0 l1 l2 l3 l4) := by
  obtain ⟨⟨hf, hlo⟩, ⟨hc1, hc2⟩, hf1, hl1⟩ := K_room K (by omega)
  have hcs : 0 ≤ C.2.2.2.2.1.cells ∧ 0 ≤ C.2.2.2.2.1.slots := ⟨Nat.zero_le _, Nat.zero_le _⟩
  intro n
  induction n with
  | zero => intros; exact s_none (fun _ => rfl)
  | succ n ih =>
    intro l0 l1 l2 l3 l4 h1 h3 h4
    unfold m_X4_firstStep_L10
    refine s_iload (j := 4) (pc2 := 12) X dX4_firstStep_10 rfl rfl ?_
    refine s_aload_n (j := 0) (pc2 := 13) X dX4_firstStep_12 rfl rfl ?_
    refine s_getR (pc2 := 16) X dX4_firstStep_13 rfl fl_RX4_28 rfl (fun v1 => ?_)
    refine s_getR (pc2 := 19) X dX4_firstStep_16 rfl fl_RX4_55 rfl (fun v2 => ?_)
    refine s_getI (pc2 := 22) X dX4_firstStep_19 rfl fl_RX4_59 rfl (fun v3 hv3 => ?_)
    refine s_icge (tgt := 67) X dX4_firstStep_22 (by decide) rfl h4 hv3 ?_ ?_
    · refine s_iconst (n := (-1)) (pc2 := 68) X dX4_firstStep_67 rfl ?_
      exact s_iret X dX4_firstStep_68 (inI_c (-1) rfl)
    · refine s_aload_n (j := 0) (pc2 := 26) X dX4_firstStep_25 rfl rfl ?_
      refine s_iload_n (j := 1) (pc2 := 27) X dX4_firstStep_26 rfl rfl ?_
      refine s_iload (j := 4) (pc2 := 29) X dX4_firstStep_27 rfl rfl ?_
      refine s_callVZ (d2 := d - 1) (As := [vI l1, vI l4]) (st := []) (pc2 := 32) X dX4_firstStep_29 rfl ml_RX4_125 im_X4_canCross se_X4_canCross kX4 rfl (c_X4_canCross (d - 1) (by omega) C.1 C.2.2.1 l0 l1 l4 h1 h4) hy_X4_canCross rfl rfl hf hlo (st_room (Nat.le_of_ble_eq_true rfl)) hcs (fun v4 hv4 => ?_)
      refine s_ifeq (tgt := 61) X dX4_firstStep_32 (by decide) rfl hv4 ?_ ?_
      · exact z_X4_firstStep_L61 d hd K X (m_X4_firstStep_L10 n) ih l0 l1 l2 l3 l4 h1 h3 h4
      · refine s_aload_n (j := 2) (pc2 := 36) X dX4_firstStep_35 rfl rfl ?_
        refine s_aload_n (j := 0) (pc2 := 37) X dX4_firstStep_36 rfl rfl ?_
        refine s_getR (pc2 := 40) X dX4_firstStep_37 rfl fl_RX4_28 rfl (fun v5 => ?_)
        refine s_getR (pc2 := 43) X dX4_firstStep_40 rfl fl_RX4_55 rfl (fun v6 => ?_)
        refine s_iload (j := 4) (pc2 := 45) X dX4_firstStep_43 rfl rfl ?_
        refine s_iload_n (j := 3) (pc2 := 46) X dX4_firstStep_45 rfl rfl ?_
        refine s_callVI (d2 := d - 1) (As := [vI l4, vI l3]) (st := [vR C.1.1 l2]) (pc2 := 49) X dX4_firstStep_46 rfl ml_RX4_71 im_X1_across se_X1_across kX1 rfl (c_X1_across (d - 1) (by omega) C.1 C.2.2.1 v6 l4 l3 h4 h3) hy_X1_across rfl rfl hf hlo (st_room (Nat.le_of_ble_eq_true rfl)) hcs (fun v7 hv7 => ?_)
        refine s_iald (pc2 := 50) X dX4_firstStep_49 rfl (fun v8 hv8 => ?_)
        refine s_aload_n (j := 2) (pc2 := 51) X dX4_firstStep_50 rfl rfl ?_
        refine s_iload_n (j := 3) (pc2 := 52) X dX4_firstStep_51 rfl rfl ?_
        refine s_iald (pc2 := 53) X dX4_firstStep_52 rfl (fun v9 hv9 => ?_)
        refine s_iconst (n := 1) (pc2 := 54) X dX4_firstStep_53 rfl ?_
        refine s_isub (pc2 := 55) X dX4_firstStep_54 rfl ?_
        refine s_icne (tgt := 61) X dX4_firstStep_55 (by decide) rfl hv8 (w32_in _) ?_ ?_
        · exact z_X4_firstStep_L61 d hd K X (m_X4_firstStep_L10 n) ih l0 l1 l2 l3 l4 h1 h3 h4
        · refine s_iload (j := 4) (pc2 := 60) X dX4_firstStep_58 rfl rfl ?_
          exact s_iret X dX4_firstStep_60 h4
set_option maxRecDepth 4000 in
set_option maxHeartbeats 20000000 in
theorem z_X4_firstStep (d : Nat) (hd : 3 ≤ d) {C : hCx} (K : hCtx C.1 C.2.2.1 d 0 0 "firstStep" C) (X : hOK C cX4_firstStep RX4 5 (some .int)) (l0 : Nat) (l1 : Int) (l2 : Nat) (h1 : inI l1) : hSim C (some .int) 0 0 5 0 [(0, vR C.1.1 l0), (1, vI l1), (2, vR C.1.1 l2)] [] 0 0 (m_X4_firstStep l0 l1 l2) := by
  obtain ⟨⟨hf, hlo⟩, ⟨hc1, hc2⟩, hf1, hl1⟩ := K_room K (by omega)
  have hcs : 0 ≤ C.2.2.2.2.1.cells ∧ 0 ≤ C.2.2.2.2.1.slots := ⟨Nat.zero_le _, Nat.zero_le _⟩
  unfold m_X4_firstStep
  refine s_aload_n (j := 0) (pc2 := 1) X dX4_firstStep_0 rfl rfl ?_
  refine s_getR (pc2 := 4) X dX4_firstStep_1 rfl fl_RX4_15 rfl (fun v1 => ?_)
  refine s_iload_n (j := 1) (pc2 := 5) X dX4_firstStep_4 rfl rfl ?_
  refine s_iald (pc2 := 6) X dX4_firstStep_5 rfl (fun v2 hv2 => ?_)
  refine s_istore_n (pc2 := 7) X dX4_firstStep_6 rfl (by decide) rfl rfl cat1_R hv2 (fun w3 hw3 => ?_)
  refine s_iconst (n := 0) (pc2 := 8) X dX4_firstStep_7 rfl ?_
  refine s_istore (pc2 := 10) X dX4_firstStep_8 rfl (by decide) rfl rfl cat1_I (inI_c 0 rfl) (fun w4 hw4 => ?_)
  refine s_sub (lv2 := [(0, vR C.1.1 l0), (1, vI l1), (2, vR C.1.1 l2), (3, vI w3), (4, vI w4)]) [2, 3, 4, 1, 0] rfl ?_
  exact z_X4_firstStep_L10 d hd K X 1000000000 l0 l1 l2 w3 w4 h1 hw3 hw4
theorem c_X4_firstStep (d : Nat) (hd : 3 ≤ d) (G : hG) (l : Launch) (l0 : Nat) (l1 : Int) (l2 : Nat) (h1 : inI l1) : hMet G l yX4_firstStep cX4_firstStep 5 (some .int) d 0 0 [vR G.1 l0, vI l1, vR G.1 l2] (m_X4_firstStep l0 l1 l2) := by
  refine hMet.of (lv := [(0, vR G.1 l0), (1, vI l1), (2, vR G.1 l2)]) (by decide +kernel) (by simp [lg_sl, vR_cat, vI_cat, vL_cat, vS_cat2, vT_cat2]) (by simp [lv_args, vR_cat, vI_cat, vL_cat, vS_cat2, vT_cat2]) (fun C K X => ?_)
  obtain ⟨rfl, rfl, K⟩ := K
  exact z_X4_firstStep d hd ⟨rfl, rfl, K⟩ X l0 l1 l2 h1
