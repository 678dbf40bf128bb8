def m_X1_init_9 (l0 : Nat) : hM :=
  hpI 1 l0 3 0 <|
  hcall (m_J9_max_7cf53 9 1) fun v1 =>
  hlet v1 fun (w2 : Int) =>
  hassert (w2 = ((9 : Nat) : Int)) <|
  hnewA 20 9 fun v3 =>
  hpR 1 l0 0 v3 <|
  hassert (w2 = ((9 : Nat) : Int)) <|
  hnewA 20 9 fun v5 =>
  hpR 1 l0 1 v5 <|
  hassert (w2 = ((9 : Nat) : Int)) <|
  hnewA 20 9 fun v7 =>
  hpR 1 l0 2 v7 <|
  hret 0
set_option maxRecDepth 4000 in
set_option maxHeartbeats 20000000 in
theorem z_X1_init_9 (d : Nat) (hd : 2 ≤ d) {C : hCx} (K : hCtx C.1 C.2.2.1 d 3 27 "<init>" C) (X : hOK C cX1_init RX1 3 none) (l0 : Nat) (p0 : 0 < l0) : hSim C none 3 27 3 0 [(0, vR C.1.1 l0), (1, vI 9)] [] 0 0 (m_X1_init_9 l0) := by
  obtain ⟨⟨hf, hlo⟩, ⟨hc1, hc2⟩, hf1, hl1⟩ := K_room K (by omega)
  have hcs : 0 ≤ C.2.2.2.2.1.cells ∧ 0 ≤ C.2.2.2.2.1.slots := ⟨Nat.zero_le _, Nat.zero_le _⟩
  unfold m_X1_init_9
  refine s_aload_n (j := 0) (pc2 := 1) X dX1_init_0 rfl rfl ?_
  refine s_objI (pc2 := 4) X dX1_init_1 rfl ml_RX1_3 im_objectInit co_objectInit p0 hf1 hl1 (st_room (Nat.le_of_ble_eq_true rfl)) ?_
  refine s_aload_n (j := 0) (pc2 := 5) X dX1_init_4 rfl rfl ?_
  refine s_iconst (n := 0) (pc2 := 6) X dX1_init_5 rfl ?_
  refine s_putI (pc2 := 9) X dX1_init_6 rfl fl_RX1_9 (Or.inl rfl) rfl (inI_c 0 rfl) ?_
  refine s_iload_n (j := 1) (pc2 := 10) X dX1_init_9 rfl rfl ?_
  refine s_iconst (n := 1) (pc2 := 11) X dX1_init_10 rfl ?_
  refine s_callSI (d2 := d - 1) (As := [vI 9, vI 1]) (st := []) (pc2 := 14) X dX1_init_11 rfl ml_RX1_15 sm_J9_max_7cf53 (c_J9_max_7cf53 (d - 1) (by omega) C.1 C.2.2.1 9 1 (inI_c 9 rfl) (inI_c 1 rfl)) hy_J9_max_7cf53 rfl rfl hf hlo (st_room (Nat.le_of_ble_eq_true rfl)) ⟨by rw [hc1]; exact Nat.le_of_ble_eq_true rfl, by rw [hc2]; exact Nat.le_of_ble_eq_true rfl⟩ (fun v1 hv1 => ?_)
  refine s_istore_n (pc2 := 15) X dX1_init_14 rfl (by decide) rfl rfl cat1_I hv1 (fun w2 hw2 => ?_)
  refine s_aload_n (j := 1) (pc2 := 16) X dX1_init_15 rfl rfl ?_
  refine s_iload_n (j := 0) (pc2 := 17) X dX1_init_16 rfl rfl ?_
  refine s_assert (fun q4 => ?_)
  refine s_newa20 (N := 9) (pc2 := 19) X dX1_init_17 rfl q4 (by decide) ac_int (by rw [hc1]; exact Nat.le_of_ble_eq_true rfl) (by rw [hc2]; exact Nat.le_of_ble_eq_true rfl) (fun v3 => ?_)
  refine s_cs 1 9 rfl rfl ?_
  refine s_putR (pc2 := 22) X dX1_init_19 rfl fl_RX1_21 (Or.inr ⟨K.2.2.2, _, rfl, rfl⟩) rfl ?_
  refine s_aload_n (j := 1) (pc2 := 23) X dX1_init_22 rfl rfl ?_
  refine s_iload_n (j := 0) (pc2 := 24) X dX1_init_23 rfl rfl ?_
  refine s_assert (fun q6 => ?_)
  refine s_newa20 (N := 9) (pc2 := 26) X dX1_init_24 rfl q6 (by decide) ac_int (by rw [hc1]; exact Nat.le_of_ble_eq_true rfl) (by rw [hc2]; exact Nat.le_of_ble_eq_true rfl) (fun v5 => ?_)
  refine s_cs 2 18 rfl rfl ?_
  refine s_putR (pc2 := 29) X dX1_init_26 rfl fl_RX1_25 (Or.inr ⟨K.2.2.2, _, rfl, rfl⟩) rfl ?_
  refine s_aload_n (j := 1) (pc2 := 30) X dX1_init_29 rfl rfl ?_
  refine s_iload_n (j := 0) (pc2 := 31) X dX1_init_30 rfl rfl ?_
  refine s_assert (fun q8 => ?_)
  refine s_newa20 (N := 9) (pc2 := 33) X dX1_init_31 rfl q8 (by decide) ac_int (by rw [hc1]; exact Nat.le_of_ble_eq_true rfl) (by rw [hc2]; exact Nat.le_of_ble_eq_true rfl) (fun v7 => ?_)
  refine s_cs 3 27 rfl rfl ?_
  refine s_putR (pc2 := 36) X dX1_init_33 rfl fl_RX1_28 (Or.inr ⟨K.2.2.2, _, rfl, rfl⟩) rfl ?_
  exact s_ret X dX1_init_36
theorem c_X1_init_9 (d : Nat) (hd : 2 ≤ d) (G : hG) (l : Launch) (l0 : Nat) (p0 : 0 < l0) : hMet G l yX1_init cX1_init 3 none d 3 27 [vR G.1 l0, vI 9] (m_X1_init_9 l0) := by
  refine hMet.of (lv := [(0, vR G.1 l0), (1, vI 9)]) (by decide +kernel) (by simp [lg_sl, vR_cat, vI_cat, vL_cat, vS_cat2, vT_cat2]) (by simp [lv_args, vR_cat, vI_cat, vL_cat, vS_cat2, vT_cat2]) (fun C K X => ?_)
  obtain ⟨rfl, rfl, K⟩ := K
  exact z_X1_init_9 d hd ⟨rfl, rfl, K⟩ X l0 p0
def m_X1_init_4 (l0 : Nat) : hM :=
  hpI 1 l0 3 0 <|
  hcall (m_J9_max_7cf53 4 1) fun v1 =>
  hlet v1 fun (w2 : Int) =>
  hassert (w2 = ((4 : Nat) : Int)) <|
  hnewA 20 4 fun v3 =>
  hpR 1 l0 0 v3 <|
  hassert (w2 = ((4 : Nat) : Int)) <|
  hnewA 20 4 fun v5 =>
  hpR 1 l0 1 v5 <|
  hassert (w2 = ((4 : Nat) : Int)) <|
  hnewA 20 4 fun v7 =>
  hpR 1 l0 2 v7 <|
  hret 0
set_option maxRecDepth 4000 in
set_option maxHeartbeats 20000000 in
theorem z_X1_init_4 (d : Nat) (hd : 2 ≤ d) {C : hCx} (K : hCtx C.1 C.2.2.1 d 3 12 "<init>" C) (X : hOK C cX1_init RX1 3 none) (l0 : Nat) (p0 : 0 < l0) : hSim C none 3 12 3 0 [(0, vR C.1.1 l0), (1, vI 4)] [] 0 0 (m_X1_init_4 l0) := by
  obtain ⟨⟨hf, hlo⟩, ⟨hc1, hc2⟩, hf1, hl1⟩ := K_room K (by omega)
  have hcs : 0 ≤ C.2.2.2.2.1.cells ∧ 0 ≤ C.2.2.2.2.1.slots := ⟨Nat.zero_le _, Nat.zero_le _⟩
  unfold m_X1_init_4
  refine s_aload_n (j := 0) (pc2 := 1) X dX1_init_0 rfl rfl ?_
  refine s_objI (pc2 := 4) X dX1_init_1 rfl ml_RX1_3 im_objectInit co_objectInit p0 hf1 hl1 (st_room (Nat.le_of_ble_eq_true rfl)) ?_
  refine s_aload_n (j := 0) (pc2 := 5) X dX1_init_4 rfl rfl ?_
  refine s_iconst (n := 0) (pc2 := 6) X dX1_init_5 rfl ?_
  refine s_putI (pc2 := 9) X dX1_init_6 rfl fl_RX1_9 (Or.inl rfl) rfl (inI_c 0 rfl) ?_
  refine s_iload_n (j := 1) (pc2 := 10) X dX1_init_9 rfl rfl ?_
  refine s_iconst (n := 1) (pc2 := 11) X dX1_init_10 rfl ?_
  refine s_callSI (d2 := d - 1) (As := [vI 4, vI 1]) (st := []) (pc2 := 14) X dX1_init_11 rfl ml_RX1_15 sm_J9_max_7cf53 (c_J9_max_7cf53 (d - 1) (by omega) C.1 C.2.2.1 4 1 (inI_c 4 rfl) (inI_c 1 rfl)) hy_J9_max_7cf53 rfl rfl hf hlo (st_room (Nat.le_of_ble_eq_true rfl)) ⟨by rw [hc1]; exact Nat.le_of_ble_eq_true rfl, by rw [hc2]; exact Nat.le_of_ble_eq_true rfl⟩ (fun v1 hv1 => ?_)
  refine s_istore_n (pc2 := 15) X dX1_init_14 rfl (by decide) rfl rfl cat1_I hv1 (fun w2 hw2 => ?_)
  refine s_aload_n (j := 1) (pc2 := 16) X dX1_init_15 rfl rfl ?_
  refine s_iload_n (j := 0) (pc2 := 17) X dX1_init_16 rfl rfl ?_
  refine s_assert (fun q4 => ?_)
  refine s_newa20 (N := 4) (pc2 := 19) X dX1_init_17 rfl q4 (by decide) ac_int (by rw [hc1]; exact Nat.le_of_ble_eq_true rfl) (by rw [hc2]; exact Nat.le_of_ble_eq_true rfl) (fun v3 => ?_)
  refine s_cs 1 4 rfl rfl ?_
  refine s_putR (pc2 := 22) X dX1_init_19 rfl fl_RX1_21 (Or.inr ⟨K.2.2.2, _, rfl, rfl⟩) rfl ?_
  refine s_aload_n (j := 1) (pc2 := 23) X dX1_init_22 rfl rfl ?_
  refine s_iload_n (j := 0) (pc2 := 24) X dX1_init_23 rfl rfl ?_
  refine s_assert (fun q6 => ?_)
  refine s_newa20 (N := 4) (pc2 := 26) X dX1_init_24 rfl q6 (by decide) ac_int (by rw [hc1]; exact Nat.le_of_ble_eq_true rfl) (by rw [hc2]; exact Nat.le_of_ble_eq_true rfl) (fun v5 => ?_)
  refine s_cs 2 8 rfl rfl ?_
  refine s_putR (pc2 := 29) X dX1_init_26 rfl fl_RX1_25 (Or.inr ⟨K.2.2.2, _, rfl, rfl⟩) rfl ?_
  refine s_aload_n (j := 1) (pc2 := 30) X dX1_init_29 rfl rfl ?_
  refine s_iload_n (j := 0) (pc2 := 31) X dX1_init_30 rfl rfl ?_
  refine s_assert (fun q8 => ?_)
  refine s_newa20 (N := 4) (pc2 := 33) X dX1_init_31 rfl q8 (by decide) ac_int (by rw [hc1]; exact Nat.le_of_ble_eq_true rfl) (by rw [hc2]; exact Nat.le_of_ble_eq_true rfl) (fun v7 => ?_)
  refine s_cs 3 12 rfl rfl ?_
  refine s_putR (pc2 := 36) X dX1_init_33 rfl fl_RX1_28 (Or.inr ⟨K.2.2.2, _, rfl, rfl⟩) rfl ?_
  exact s_ret X dX1_init_36
theorem c_X1_init_4 (d : Nat) (hd : 2 ≤ d) (G : hG) (l : Launch) (l0 : Nat) (p0 : 0 < l0) : hMet G l yX1_init cX1_init 3 none d 3 12 [vR G.1 l0, vI 4] (m_X1_init_4 l0) := by
  refine hMet.of (lv := [(0, vR G.1 l0), (1, vI 4)]) (by decide +kernel) (by simp [lg_sl, vR_cat, vI_cat, vL_cat, vS_cat2, vT_cat2]) (by simp [lv_args, vR_cat, vI_cat, vL_cat, vS_cat2, vT_cat2]) (fun C K X => ?_)
  obtain ⟨rfl, rfl, K⟩ := K
  exact z_X1_init_4 d hd ⟨rfl, rfl, K⟩ X l0 p0
def m_X1_isFull_L17 (s0 : Int) : hM :=
  hretZ s0
def m_X1_isFull (l0 : Nat) : hM :=
  hgI 1 l0 3 fun v1 =>
  hgR 1 l0 0 fun v2 =>
  hlen 20 v2 fun v3 =>
  hif (v1 < v3) (
m_X1_isFull_L17 0) (
m_X1_isFull_L17 1)
set_option maxRecDepth 4000 in
theorem z_X1_isFull_L17 (d : Nat) (hd : 1 ≤ d) {C : hCx} (K : hCtx C.1 C.2.2.1 d 0 0 "isFull" C) (X : hOK C cX1_isFull RX1 1 (some .boolean)) (s0 : Int) (g0 : inI s0) : hSim C (some .boolean) 0 0 1 17 [] [vI s0] 0 0 (m_X1_isFull_L17 s0) := by
  obtain ⟨⟨hf, hlo⟩, ⟨hc1, hc2⟩, hf1, hl1⟩ := K_room K (by omega)
  have hcs : 0 ≤ C.2.2.2.2.1.cells ∧ 0 ≤ C.2.2.2.2.1.slots := ⟨Nat.zero_le _, Nat.zero_le _⟩
  unfold m_X1_isFull_L17
  exact s_zret X dX1_isFull_17
set_option maxRecDepth 4000 in
set_option maxHeartbeats 20000000 in
theorem z_X1_isFull (d : Nat) (hd : 1 ≤ d) {C : hCx} (K : hCtx C.1 C.2.2.1 d 0 0 "isFull" C) (X : hOK C cX1_isFull RX1 1 (some .boolean)) (l0 : Nat) : hSim C (some .boolean) 0 0 1 0 [(0, vR C.1.1 l0)] [] 0 0 (m_X1_isFull l0) := by
  obtain ⟨⟨hf, hlo⟩, ⟨hc1, hc2⟩, hf1, hl1⟩ := K_room K (by omega)
  have hcs : 0 ≤ C.2.2.2.2.1.cells ∧ 0 ≤ C.2.2.2.2.1.slots := ⟨Nat.zero_le _, Nat.zero_le _⟩
  unfold m_X1_isFull
  refine s_aload_n (j := 0) (pc2 := 1) X dX1_isFull_0 rfl rfl ?_
  refine s_getI (pc2 := 4) X dX1_isFull_1 rfl fl_RX1_9 rfl (fun v1 hv1 => ?_)
  refine s_aload_n (j := 0) (pc2 := 5) X dX1_isFull_4 rfl rfl ?_
  refine s_getR (pc2 := 8) X dX1_isFull_5 rfl fl_RX1_21 rfl (fun v2 => ?_)
  refine s_alen20 (pc2 := 9) X dX1_isFull_8 rfl (fun v3 hv3 => ?_)
  refine s_iclt (tgt := 16) X dX1_isFull_9 (by decide) rfl hv1 hv3 ?_ ?_
  · refine s_iconst (n := 0) (pc2 := 17) X dX1_isFull_16 rfl ?_
    refine s_sub (lv2 := []) [] rfl ?_
    exact z_X1_isFull_L17 d hd K X 0 (inI_c 0 rfl)
  · refine s_iconst (n := 1) (pc2 := 13) X dX1_isFull_12 rfl ?_
    refine s_goto (pc2 := 17) X dX1_isFull_13 (by decide) ?_
    refine s_sub (lv2 := []) [] rfl ?_
    exact z_X1_isFull_L17 d hd K X 1 (inI_c 1 rfl)
theorem c_X1_isFull (d : Nat) (hd : 1 ≤ d) (G : hG) (l : Launch) (l0 : Nat) : hMet G l yX1_isFull cX1_isFull 1 (some .boolean) d 0 0 [vR G.1 l0] (m_X1_isFull l0) := by
  refine hMet.of (lv := [(0, vR G.1 l0)]) (by decide +kernel) (by simp [lg_sl, vR_cat, vI_cat, vL_cat, vS_cat2, vT_cat2]) (by simp [lv_args, vR_cat, vI_cat, vL_cat, vS_cat2, vT_cat2]) (fun C K X => ?_)
  obtain ⟨rfl, rfl, K⟩ := K
  exact z_X1_isFull d hd ⟨rfl, rfl, K⟩ X l0
def m_X1_across_L37 (s0 : Int) : hM :=
  hret s0
def m_X1_across (l0 : Nat) (l1 : Int) (l2 : Int) : hM :=
  hgR 1 l0 0 fun v1 =>
  haI 20 v1 l1 fun v2 =>
  hif (v2 ≠ l2) (
hgR 1 l0 1 fun v3 =>
  haI 20 v3 l1 fun v4 =>
  hif (v4 ≠ l2) (
m_X1_across_L37 ((-1))) (
hgR 1 l0 0 fun v5 =>
  haI 20 v5 l1 fun v6 =>
  m_X1_across_L37 v6)) (
hgR 1 l0 1 fun v7 =>
  haI 20 v7 l1 fun v8 =>
  hret v8)
set_option maxRecDepth 4000 in
theorem z_X1_across_L37 (d : Nat) (hd : 1 ≤ d) {C : hCx} (K : hCtx C.1 C.2.2.1 d 0 0 "across" C) (X : hOK C cX1_across RX1 3 (some .int)) (s0 : Int) (g0 : inI s0) : hSim C (some .int) 0 0 3 37 [] [vI s0] 0 0 (m_X1_across_L37 s0) := by
  obtain ⟨⟨hf, hlo⟩, ⟨hc1, hc2⟩, hf1, hl1⟩ := K_room K (by omega)
  have hcs : 0 ≤ C.2.2.2.2.1.cells ∧ 0 ≤ C.2.2.2.2.1.slots := ⟨Nat.zero_le _, Nat.zero_le _⟩
  unfold m_X1_across_L37
  exact s_iret X dX1_across_37 g0
set_option maxRecDepth 4000 in
set_option maxHeartbeats 20000000 in
theorem z_X1_across (d : Nat) (hd : 1 ≤ d) {C : hCx} (K : hCtx C.1 C.2.2.1 d 0 0 "across" C) (X : hOK C cX1_across RX1 3 (some .int)) (l0 : Nat) (l1 : Int) (l2 : Int) (h1 : inI l1) (h2 : inI l2) : hSim C (some .int) 0 0 3 0 [(0, vR C.1.1 l0), (1, vI l1), (2, vI l2)] [] 0 0 (m_X1_across l0 l1 l2) := by
  obtain ⟨⟨hf, hlo⟩, ⟨hc1, hc2⟩, hf1, hl1⟩ := K_room K (by omega)
  have hcs : 0 ≤ C.2.2.2.2.1.cells ∧ 0 ≤ C.2.2.2.2.1.slots := ⟨Nat.zero_le _, Nat.zero_le _⟩
  unfold m_X1_across
  refine s_aload_n (j := 0) (pc2 := 1) X dX1_across_0 rfl rfl ?_
  refine s_getR (pc2 := 4) X dX1_across_1 rfl fl_RX1_21 rfl (fun v1 => ?_)
  refine s_iload_n (j := 1) (pc2 := 5) X dX1_across_4 rfl rfl ?_
  refine s_iald (pc2 := 6) X dX1_across_5 rfl (fun v2 hv2 => ?_)
  refine s_iload_n (j := 2) (pc2 := 7) X dX1_across_6 rfl rfl ?_
  refine s_icne (tgt := 17) X dX1_across_7 (by decide) rfl hv2 h2 ?_ ?_
  · refine s_aload_n (j := 0) (pc2 := 18) X dX1_across_17 rfl rfl ?_
    refine s_getR (pc2 := 21) X dX1_across_18 rfl fl_RX1_25 rfl (fun v3 => ?_)
    refine s_iload_n (j := 1) (pc2 := 22) X dX1_across_21 rfl rfl ?_
    refine s_iald (pc2 := 23) X dX1_across_22 rfl (fun v4 hv4 => ?_)
    refine s_iload_n (j := 2) (pc2 := 24) X dX1_across_23 rfl rfl ?_
    refine s_icne (tgt := 36) X dX1_across_24 (by decide) rfl hv4 h2 ?_ ?_
    · refine s_iconst (n := (-1)) (pc2 := 37) X dX1_across_36 rfl ?_
      refine s_sub (lv2 := []) [] rfl ?_
      exact z_X1_across_L37 d hd K X ((-1)) (inI_c (-1) rfl)
    · refine s_aload_n (j := 0) (pc2 := 28) X dX1_across_27 rfl rfl ?_
      refine s_getR (pc2 := 31) X dX1_across_28 rfl fl_RX1_21 rfl (fun v5 => ?_)
      refine s_iload_n (j := 1) (pc2 := 32) X dX1_across_31 rfl rfl ?_
      refine s_iald (pc2 := 33) X dX1_across_32 rfl (fun v6 hv6 => ?_)
      refine s_goto (pc2 := 37) X dX1_across_33 (by decide) ?_
      refine s_sub (lv2 := []) [] rfl ?_
      exact z_X1_across_L37 d hd K X v6 hv6
  · refine s_aload_n (j := 0) (pc2 := 11) X dX1_across_10 rfl rfl ?_
    refine s_getR (pc2 := 14) X dX1_across_11 rfl fl_RX1_25 rfl (fun v7 => ?_)
    refine s_iload_n (j := 1) (pc2 := 15) X dX1_across_14 rfl rfl ?_
    refine s_iald (pc2 := 16) X dX1_across_15 rfl (fun v8 hv8 => ?_)
    exact s_iret X dX1_across_16 hv8
theorem c_X1_across (d : Nat) (hd : 1 ≤ d) (G : hG) (l : Launch) (l0 : Nat) (l1 : Int) (l2 : Int) (h1 : inI l1) (h2 : inI l2) : hMet G l yX1_across cX1_across 3 (some .int) d 0 0 [vR G.1 l0, vI l1, vI l2] (m_X1_across l0 l1 l2) := by
  refine hMet.of (lv := [(0, vR G.1 l0), (1, vI l1), (2, vI l2)]) (by decide +kernel) (by simp [lg_sl, vR_cat, vI_cat, vL_cat, vS_cat2, vT_cat2]) (by simp [lv_args, vR_cat, vI_cat, vL_cat, vS_cat2, vT_cat2]) (fun C K X => ?_)
  obtain ⟨rfl, rfl, K⟩ := K
  exact z_X1_across d hd ⟨rfl, rfl, K⟩ X l0 l1 l2 h1 h2
def m_X1_add_L73 (k40 : Nat → Int → Int → Int → hM) (l0 : Nat) (l1 : Int) (l2 : Int) (l3 : Int) : hM :=
  hlet (w32 (l3 + 1)) fun (w1 : Int) =>
  k40 l0 l1 l2 w1
def m_X1_add_L40 : Nat → Nat → Int → Int → Int → hM
  | 0, _, _, _, _ => hfail
  | n + 1, l0, l1, l2, l3 =>
    hgI 1 l0 3 fun v1 =>
  hif (l3 ≥ v1) (
hgI 1 l0 3 fun v2 =>
  hpI 1 l0 3 ((w32 (v2 + 1))) <|
  hret 0) (
hcallV 1 l0 (m_X1_across l0 l3 l1) fun v3 =>
  hif (v3 ≠ l2) (
m_X1_add_L73 (m_X1_add_L40 n) l0 l1 l2 l3) (
hgR 1 l0 2 fun v4 =>
  hgI 1 l0 3 fun v5 =>
  haI 20 v4 v5 fun v6 =>
  hsI 20 v4 v5 ((iorZ v6 ((ishlZ 1 l3)))) <|
  m_X1_add_L73 (m_X1_add_L40 n) l0 l1 l2 l3))
def m_X1_add (l0 : Nat) (l1 : Int) (l2 : Int) : hM :=
  hcallV 1 l0 (m_X1_isFull l0) fun v1 =>
  hif (v1 = 0) (
hgR 1 l0 0 fun v2 =>
  hgI 1 l0 3 fun v3 =>
  hsI 20 v2 v3 l1 <|
  hgR 1 l0 1 fun v4 =>
  hgI 1 l0 3 fun v5 =>
  hsI 20 v4 v5 l2 <|
  hgR 1 l0 2 fun v6 =>
  hgI 1 l0 3 fun v7 =>
  hsI 20 v6 v7 0 <|
  hlet (0 : Int) fun (w8 : Int) =>
  m_X1_add_L40 1000000000 l0 l1 l2 w8) (
hret 0)
set_option maxRecDepth 4000 in
theorem z_X1_add_L73 (d : Nat) (hd : 2 ≤ d) {C : hCx} (K : hCtx C.1 C.2.2.1 d 0 0 "add" C) (X : hOK C cX1_add RX1 4 none) (k40 : Nat → Int → Int → Int → hM) (hk40 : ∀ (l0 : Nat) (l1 : Int) (l2 : Int) (l3 : Int), inI l1 → inI l2 → inI l3 → hSim C none 0 0 4 40 [(0, vR C.1.1 l0), (1, vI l1), (2, vI l2), (3, vI l3)] [] 0 0 (k40 l0 l1 l2 l3)) (l0 : Nat) (l1 : Int) (l2 : Int) (l3 : Int) (h1 : inI l1) (h2 : inI l2) (h3 : inI l3) : hSim C none 0 0 4 73 [(0, vR C.1.1 l0), (1, vI l1), (2, vI l2), (3, vI l3)] [] 0 0 (m_X1_add_L73 k40 l0 l1 l2 l3) := by
  obtain ⟨⟨hf, hlo⟩, ⟨hc1, hc2⟩, hf1, hl1⟩ := K_room K (by omega)
  have hcs : 0 ≤ C.2.2.2.2.1.cells ∧ 0 ≤ C.2.2.2.2.1.slots := ⟨Nat.zero_le _, Nat.zero_le _⟩
  unfold m_X1_add_L73
  refine s_iinc (j := 3) (pc2 := 76) X dX1_add_73 rfl (by decide) rfl rfl rfl cat1_I (fun w1 hw1 => ?_)
  refine s_goto (pc2 := 40) X dX1_add_76 (by decide) ?_
  refine s_sub (lv2 := [(0, vR C.1.1 l0), (1, vI l1), (2, vI l2), (3, vI w1)]) [1, 2, 3, 0] rfl ?_
  exact hk40 l0 l1 l2 w1 h1 h2 hw1
set_option maxRecDepth 4000 in
theorem z_X1_add_L40 (d : Nat) (hd : 2 ≤ d) {C : hCx} (K : hCtx C.1 C.2.2.1 d 0 0 "add" C) (X : hOK C cX1_add RX1 4 none) : ∀ (n : Nat) (l0 : Nat) (l1 : Int) (l2 : Int) (l3 : Int) (h1 : inI l1) (h2 : inI l2) (h3 : inI l3), hSim C none 0 0 4 40 [(0, vR C.1.1 l0), (1, vI l1), (2, vI l2), (3, vI l3)] [] 0 0 (m_X1_add_L40 n l0 l1 l2 l3) := by
  obtain ⟨⟨hf, hlo⟩, ⟨hc1, hc2⟩, hf1, hl1⟩ := K_room K (by omega)
  have hcs : 0 ≤ C.2.2.2.2.1.cells ∧ 0 ≤ C.2.2.2.2.1.slots := ⟨Nat.zero_le _, Nat.zero_le _⟩
  intro n
  induction n with
  | zero => intros; exact s_none (fun _ => rfl)
  | succ n ih =>
    intro l0 l1 l2 l3 h1 h2 h3
    unfold m_X1_add_L40
    refine s_iload_n (j := 3) (pc2 := 41) X dX1_add_40 rfl rfl ?_
    refine s_aload_n (j := 0) (pc2 := 42) X dX1_add_41 rfl rfl ?_
    refine s_getI (pc2 := 45) X dX1_add_42 rfl fl_RX1_9 rfl (fun v1 hv1 => ?_)
    refine s_icge (tgt := 79) X dX1_add_45 (by decide) rfl h3 hv1 ?_ ?_
    · refine s_aload_n (j := 0) (pc2 := 80) X dX1_add_79 rfl rfl ?_
      refine s_dup (pc2 := 81) X dX1_add_80 rfl (vR_cat _ _) ?_
      refine s_getI (pc2 := 84) X dX1_add_81 rfl fl_RX1_9 rfl (fun v2 hv2 => ?_)
      refine s_iconst (n := 1) (pc2 := 85) X dX1_add_84 rfl ?_
      refine s_iadd (pc2 := 86) X dX1_add_85 rfl ?_
      refine s_putI (pc2 := 89) X dX1_add_86 rfl fl_RX1_9 (Or.inl rfl) rfl (w32_in _) ?_
      exact s_ret X dX1_add_89
    · refine s_aload_n (j := 0) (pc2 := 49) X dX1_add_48 rfl rfl ?_
      refine s_iload_n (j := 3) (pc2 := 50) X dX1_add_49 rfl rfl ?_
      refine s_iload_n (j := 1) (pc2 := 51) X dX1_add_50 rfl rfl ?_
      refine s_callVI (d2 := d - 1) (As := [vI l3, vI l1]) (st := []) (pc2 := 54) X dX1_add_51 rfl ml_RX1_35 im_X1_across se_X1_across kX1 rfl (c_X1_across (d - 1) (by omega) C.1 C.2.2.1 l0 l3 l1 h3 h1) hy_X1_across rfl rfl hf hlo (st_room (Nat.le_of_ble_eq_true rfl)) hcs (fun v3 hv3 => ?_)
      refine s_iload_n (j := 2) (pc2 := 55) X dX1_add_54 rfl rfl ?_
      refine s_icne (tgt := 73) X dX1_add_55 (by decide) rfl hv3 h2 ?_ ?_
      · exact z_X1_add_L73 d hd K X (m_X1_add_L40 n) ih l0 l1 l2 l3 h1 h2 h3
      · refine s_aload_n (j := 0) (pc2 := 59) X dX1_add_58 rfl rfl ?_
        refine s_getR (pc2 := 62) X dX1_add_59 rfl fl_RX1_28 rfl (fun v4 => ?_)
        refine s_aload_n (j := 0) (pc2 := 63) X dX1_add_62 rfl rfl ?_
        refine s_getI (pc2 := 66) X dX1_add_63 rfl fl_RX1_9 rfl (fun v5 hv5 => ?_)
        refine s_dup2 (pc2 := 67) X dX1_add_66 rfl rfl (vR_cat _ _) ?_
        refine s_iald (pc2 := 68) X dX1_add_67 rfl (fun v6 hv6 => ?_)
        refine s_iconst (n := 1) (pc2 := 69) X dX1_add_68 rfl ?_
        refine s_iload_n (j := 3) (pc2 := 70) X dX1_add_69 rfl rfl ?_
        refine s_ishl (pc2 := 71) X dX1_add_70 rfl ?_
        refine s_ior (pc2 := 72) X dX1_add_71 rfl ?_
        refine s_iast (pc2 := 73) X dX1_add_72 rfl (iorZ_in _ _) ?_
        exact z_X1_add_L73 d hd K X (m_X1_add_L40 n) ih l0 l1 l2 l3 h1 h2 h3
set_option maxRecDepth 4000 in
set_option maxHeartbeats 20000000 in
theorem z_X1_add (d : Nat) (hd : 2 ≤ d) {C : hCx} (K : hCtx C.1 C.2.2.1 d 0 0 "add" C) (X : hOK C cX1_add RX1 4 none) (l0 : Nat) (l1 : Int) (l2 : Int) (h1 : inI l1) (h2 : inI l2) : hSim C none 0 0 4 0 [(0, vR C.1.1 l0), (1, vI l1), (2, vI l2)] [] 0 0 (m_X1_add l0 l1 l2) := by
  obtain ⟨⟨hf, hlo⟩, ⟨hc1, hc2⟩, hf1, hl1⟩ := K_room K (by omega)
  have hcs : 0 ≤ C.2.2.2.2.1.cells ∧ 0 ≤ C.2.2.2.2.1.slots := ⟨Nat.zero_le _, Nat.zero_le _⟩
  unfold m_X1_add
  refine s_aload_n (j := 0) (pc2 := 1) X dX1_add_0 rfl rfl ?_
  refine s_callVZ (d2 := d - 1) (As := []) (st := []) (pc2 := 4) X dX1_add_1 rfl ml_RX1_31 im_X1_isFull se_X1_isFull kX1 rfl (c_X1_isFull (d - 1) (by omega) C.1 C.2.2.1 l0) hy_X1_isFull rfl rfl hf hlo (st_room (Nat.le_of_ble_eq_true rfl)) hcs (fun v1 hv1 => ?_)
  refine s_ifeq (tgt := 8) X dX1_add_4 (by decide) rfl hv1 ?_ ?_
  · refine s_aload_n (j := 0) (pc2 := 9) X dX1_add_8 rfl rfl ?_
    refine s_getR (pc2 := 12) X dX1_add_9 rfl fl_RX1_21 rfl (fun v2 => ?_)
    refine s_aload_n (j := 0) (pc2 := 13) X dX1_add_12 rfl rfl ?_
    refine s_getI (pc2 := 16) X dX1_add_13 rfl fl_RX1_9 rfl (fun v3 hv3 => ?_)
    refine s_iload_n (j := 1) (pc2 := 17) X dX1_add_16 rfl rfl ?_
    refine s_iast (pc2 := 18) X dX1_add_17 rfl h1 ?_
    refine s_aload_n (j := 0) (pc2 := 19) X dX1_add_18 rfl rfl ?_
    refine s_getR (pc2 := 22) X dX1_add_19 rfl fl_RX1_25 rfl (fun v4 => ?_)
    refine s_aload_n (j := 0) (pc2 := 23) X dX1_add_22 rfl rfl ?_
    refine s_getI (pc2 := 26) X dX1_add_23 rfl fl_RX1_9 rfl (fun v5 hv5 => ?_)
    refine s_iload_n (j := 2) (pc2 := 27) X dX1_add_26 rfl rfl ?_
    refine s_iast (pc2 := 28) X dX1_add_27 rfl h2 ?_
    refine s_aload_n (j := 0) (pc2 := 29) X dX1_add_28 rfl rfl ?_
    refine s_getR (pc2 := 32) X dX1_add_29 rfl fl_RX1_28 rfl (fun v6 => ?_)
    refine s_aload_n (j := 0) (pc2 := 33) X dX1_add_32 rfl rfl ?_
    refine s_getI (pc2 := 36) X dX1_add_33 rfl fl_RX1_9 rfl (fun v7 hv7 => ?_)
    refine s_iconst (n := 0) (pc2 := 37) X dX1_add_36 rfl ?_
    refine s_iast (pc2 := 38) X dX1_add_37 rfl (inI_c 0 rfl) ?_
    refine s_iconst (n := 0) (pc2 := 39) X dX1_add_38 rfl ?_
    refine s_istore_n (pc2 := 40) X dX1_add_39 rfl (by decide) rfl rfl cat1_I (inI_c 0 rfl) (fun w8 hw8 => ?_)
    refine s_sub (lv2 := [(0, vR C.1.1 l0), (1, vI l1), (2, vI l2), (3, vI w8)]) [1, 2, 3, 0] rfl ?_
    exact z_X1_add_L40 d hd K X 1000000000 l0 l1 l2 w8 h1 h2 hw8
  · exact s_ret X dX1_add_7
theorem c_X1_add (d : Nat) (hd : 2 ≤ d) (G : hG) (l : Launch) (l0 : Nat) (l1 : Int) (l2 : Int) (h1 : inI l1) (h2 : inI l2) : hMet G l yX1_add cX1_add 4 none d 0 0 [vR G.1 l0, vI l1, vI l2] (m_X1_add l0 l1 l2) := by
  refine hMet.of (lv := [(0, vR G.1 l0), (1, vI l1), (2, vI l2)]) (by decide +kernel) (by simp [lg_sl, vR_cat, vI_cat, vL_cat, vS_cat2, vT_cat2]) (by simp [lv_args, vR_cat, vI_cat, vL_cat, vS_cat2, vT_cat2]) (fun C K X => ?_)
  obtain ⟨rfl, rfl, K⟩ := K
  exact z_X1_add d hd ⟨rfl, rfl, K⟩ X l0 l1 l2 h1 h2
def m_X1_isFirstOpen_L47 (k21 : Nat → Int → Nat → Int → hM) (l0 : Nat) (l1 : Int) (l2 : Nat) (l3 : Int) : hM :=
  hlet (w32 (l3 + 1)) fun (w1 : Int) =>
  k21 l0 l1 l2 w1
def m_X1_isFirstOpen_L21 : Nat → Nat → Int → Nat → Int → hM
  | 0, _, _, _, _ => hfail
  | n + 1, l0, l1, l2, l3 =>
    hif (l3 ≥ l1) (
hretZ 1) (
hgR 1 l0 2 fun v1 =>
  haI 20 v1 l1 fun v2 =>
  hif (((iandZ ((ishrZ v2 l3)) 1)) = 0) (
m_X1_isFirstOpen_L47 (m_X1_isFirstOpen_L21 n) l0 l1 l2 l3) (
haI 20 l2 l3 fun v3 =>
  hif (v3 ≤ 0) (
m_X1_isFirstOpen_L47 (m_X1_isFirstOpen_L21 n) l0 l1 l2 l3) (
hretZ 0)))
def m_X1_isFirstOpen (l0 : Nat) (l1 : Int) (l2 : Nat) : hM :=
  haI 20 l2 l1 fun v1 =>
  hif (v1 > 0) (
hgR 1 l0 2 fun v2 =>
  haI 20 v2 l1 fun v3 =>
  hif (v3 ≠ 0) (
hlet (0 : Int) fun (w4 : Int) =>
  m_X1_isFirstOpen_L21 1000000000 l0 l1 l2 w4) (
hretZ 1)) (
hretZ 0)
set_option maxRecDepth 4000 in
theorem z_X1_isFirstOpen_L47 (d : Nat) (hd : 1 ≤ d) {C : hCx} (K : hCtx C.1 C.2.2.1 d 0 0 "isFirstOpen" C) (X : hOK C cX1_isFirstOpen RX1 4 (some .boolean)) (k21 : Nat → Int → Nat → Int → hM) (hk21 : ∀ (l0 : Nat) (l1 : Int) (l2 : Nat) (l3 : Int), inI l1 → inI l3 → hSim C (some .boolean) 0 0 4 21 [(0, vR C.1.1 l0), (1, vI l1), (2, vR C.1.1 l2), (3, vI l3)] [] 0 0 (k21 l0 l1 l2 l3)) (l0 : Nat) (l1 : Int) (l2 : Nat) (l3 : Int) (h1 : inI l1) (h3 : inI l3) : hSim C (some .boolean) 0 0 4 47 [(0, vR C.1.1 l0), (1, vI l1), (2, vR C.1.1 l2), (3, vI l3)] [] 0 0 (m_X1_isFirstOpen_L47 k21 l0 l1 l2 l3) := by
  obtain ⟨⟨hf, hlo⟩, ⟨hc1, hc2⟩, hf1, hl1⟩ := K_room K (by omega)
  have hcs : 0 ≤ C.2.2.2.2.1.cells ∧ 0 ≤ C.2.2.2.2.1.slots := ⟨Nat.zero_le _, Nat.zero_le _⟩
  unfold m_X1_isFirstOpen_L47
  refine s_iinc (j := 3) (pc2 := 50) X dX1_isFirstOpen_47 rfl (by decide) rfl rfl rfl cat1_R (fun w1 hw1 => ?_)
  refine s_goto (pc2 := 21) X dX1_isFirstOpen_50 (by decide) ?_
  refine s_sub (lv2 := [(0, vR C.1.1 l0), (1, vI l1), (2, vR C.1.1 l2), (3, vI w1)]) [1, 2, 3, 0] rfl ?_
  exact hk21 l0 l1 l2 w1 h1 hw1
set_option maxRecDepth 4000 in
theorem z_X1_isFirstOpen_L21 (d : Nat) (hd : 1 ≤ d) {C : hCx} (K : hCtx C.1 C.2.2.1 d 0 0 "isFirstOpen" C) (X : hOK C cX1_isFirstOpen RX1 4 (some .boolean)) : ∀ (n : Nat) (l0 : Nat) (l1 : Int) (l2 : Nat) (l3 : Int) (h1 : inI l1) (h3 : inI l3), hSim C (some .boolean) 0 0 4 21 [(0, vR C.1.1 l0), (1, vI l1), (2, vR C.1.1 l2), (3, vI l3)] [] 0 0 (m_X1_isFirstOpen_L21 n l0 l1 l2 l3) := by
  obtain ⟨⟨hf, hlo⟩, ⟨hc1, hc2⟩, hf1, hl1⟩ := K_room K (by omega)
  have hcs : 0 ≤ C.2.2.2.2.1.cells ∧ 0 ≤ C.2.2.2.2.1.slots := ⟨Nat.zero_le _, Nat.zero_le _⟩
  intro n
  induction n with
  | zero => intros; exact s_none (fun _ => rfl)
  | succ n ih =>
    intro l0 l1 l2 l3 h1 h3
    unfold m_X1_isFirstOpen_L21
    refine s_iload_n (j := 3) (pc2 := 22) X dX1_isFirstOpen_21 rfl rfl ?_
    refine s_iload_n (j := 1) (pc2 := 23) X dX1_isFirstOpen_22 rfl rfl ?_
    refine s_icge (tgt := 53) X dX1_isFirstOpen_23 (by decide) rfl h3 h1 ?_ ?_
    · refine s_iconst (n := 1) (pc2 := 54) X dX1_isFirstOpen_53 rfl ?_
      exact s_zret X dX1_isFirstOpen_54
    · refine s_aload_n (j := 0) (pc2 := 27) X dX1_isFirstOpen_26 rfl rfl ?_
      refine s_getR (pc2 := 30) X dX1_isFirstOpen_27 rfl fl_RX1_28 rfl (fun v1 => ?_)
      refine s_iload_n (j := 1) (pc2 := 31) X dX1_isFirstOpen_30 rfl rfl ?_
      refine s_iald (pc2 := 32) X dX1_isFirstOpen_31 rfl (fun v2 hv2 => ?_)
      refine s_iload_n (j := 3) (pc2 := 33) X dX1_isFirstOpen_32 rfl rfl ?_
      refine s_ishr (pc2 := 34) X dX1_isFirstOpen_33 rfl ?_
      refine s_iconst (n := 1) (pc2 := 35) X dX1_isFirstOpen_34 rfl ?_
      refine s_iand (pc2 := 36) X dX1_isFirstOpen_35 rfl ?_
      refine s_ifeq (tgt := 47) X dX1_isFirstOpen_36 (by decide) rfl (iandZ_in _ _) ?_ ?_
      · exact z_X1_isFirstOpen_L47 d hd K X (m_X1_isFirstOpen_L21 n) ih l0 l1 l2 l3 h1 h3
      · refine s_aload_n (j := 2) (pc2 := 40) X dX1_isFirstOpen_39 rfl rfl ?_
        refine s_iload_n (j := 3) (pc2 := 41) X dX1_isFirstOpen_40 rfl rfl ?_
        refine s_iald (pc2 := 42) X dX1_isFirstOpen_41 rfl (fun v3 hv3 => ?_)
        refine s_ifle (tgt := 47) X dX1_isFirstOpen_42 (by decide) rfl hv3 ?_ ?_
        · exact z_X1_isFirstOpen_L47 d hd K X (m_X1_isFirstOpen_L21 n) ih l0 l1 l2 l3 h1 h3
        · refine s_iconst (n := 0) (pc2 := 46) X dX1_isFirstOpen_45 rfl ?_
          exact s_zret X dX1_isFirstOpen_46
set_option maxRecDepth 4000 in
set_option maxHeartbeats 20000000 in
theorem z_X1_isFirstOpen (d : Nat) (hd : 1 ≤ d) {C : hCx} (K : hCtx C.1 C.2.2.1 d 0 0 "isFirstOpen" C) (X : hOK C cX1_isFirstOpen RX1 4 (some .boolean)) (l0 : Nat) (l1 : Int) (l2 : Nat) (h1 : inI l1) : hSim C (some .boolean) 0 0 4 0 [(0, vR C.1.1 l0), (1, vI l1), (2, vR C.1.1 l2)] [] 0 0 (m_X1_isFirstOpen l0 l1 l2) := by
  obtain ⟨⟨hf, hlo⟩, ⟨hc1, hc2⟩, hf1, hl1⟩ := K_room K (by omega)
  have hcs : 0 ≤ C.2.2.2.2.1.cells ∧ 0 ≤ C.2.2.2.2.1.slots := ⟨Nat.zero_le _, Nat.zero_le _⟩
  unfold m_X1_isFirstOpen
  refine s_aload_n (j := 2) (pc2 := 1) X dX1_isFirstOpen_0 rfl rfl ?_
  refine s_iload_n (j := 1) (pc2 := 2) X dX1_isFirstOpen_1 rfl rfl ?_
  refine s_iald (pc2 := 3) X dX1_isFirstOpen_2 rfl (fun v1 hv1 => ?_)
  refine s_ifgt (tgt := 8) X dX1_isFirstOpen_3 (by decide) rfl hv1 ?_ ?_
  · refine s_aload_n (j := 0) (pc2 := 9) X dX1_isFirstOpen_8 rfl rfl ?_
    refine s_getR (pc2 := 12) X dX1_isFirstOpen_9 rfl fl_RX1_28 rfl (fun v2 => ?_)
    refine s_iload_n (j := 1) (pc2 := 13) X dX1_isFirstOpen_12 rfl rfl ?_
    refine s_iald (pc2 := 14) X dX1_isFirstOpen_13 rfl (fun v3 hv3 => ?_)
    refine s_ifne (tgt := 19) X dX1_isFirstOpen_14 (by decide) rfl hv3 ?_ ?_
    · refine s_iconst (n := 0) (pc2 := 20) X dX1_isFirstOpen_19 rfl ?_
      refine s_istore_n (pc2 := 21) X dX1_isFirstOpen_20 rfl (by decide) rfl rfl cat1_R (inI_c 0 rfl) (fun w4 hw4 => ?_)
      refine s_sub (lv2 := [(0, vR C.1.1 l0), (1, vI l1), (2, vR C.1.1 l2), (3, vI w4)]) [1, 2, 3, 0] rfl ?_
      exact z_X1_isFirstOpen_L21 d hd K X 1000000000 l0 l1 l2 w4 h1 hw4
    · refine s_iconst (n := 1) (pc2 := 18) X dX1_isFirstOpen_17 rfl ?_
      exact s_zret X dX1_isFirstOpen_18
  · refine s_iconst (n := 0) (pc2 := 7) X dX1_isFirstOpen_6 rfl ?_
    exact s_zret X dX1_isFirstOpen_7
theorem c_X1_isFirstOpen (d : Nat) (hd : 1 ≤ d) (G : hG) (l : Launch) (l0 : Nat) (l1 : Int) (l2 : Nat) (h1 : inI l1) : hMet G l yX1_isFirstOpen cX1_isFirstOpen 4 (some .boolean) d 0 0 [vR G.1 l0, vI l1, vR G.1 l2] (m_X1_isFirstOpen l0 l1 l2) := by
  refine hMet.of (lv := [(0, vR G.1 l0), (1, vI l1), (2, vR G.1 l2)]) (by decide +kernel) (by simp [lg_sl, vR_cat, vI_cat, vL_cat, vS_cat2, vT_cat2]) (by simp [lv_args, vR_cat, vI_cat, vL_cat, vS_cat2, vT_cat2]) (fun C K X => ?_)
  obtain ⟨rfl, rfl, K⟩ := K
  exact z_X1_isFirstOpen d hd ⟨rfl, rfl, K⟩ X l0 l1 l2 h1
