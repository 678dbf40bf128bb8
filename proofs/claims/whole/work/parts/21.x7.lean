def m_X7_init (l0 : Nat) : hM :=
  hpI 7 l0 0 0 <|
  hpI 7 l0 1 0 <|
  hnew 1 fun v1 =>
  hassert (0 < v1) <|
  hcall (m_X1_init_9 v1) fun _ =>
  hpR 7 l0 2 v1 <|
  hnew 1 fun v2 =>
  hassert (0 < v2) <|
  hcall (m_X1_init_4 v2) fun _ =>
  hpR 7 l0 3 v2 <|
  hpI 7 l0 4 0 <|
  hnewA 20 4 fun v3 =>
  hpR 7 l0 5 v3 <|
  hnewA 20 4 fun v4 =>
  hpR 7 l0 6 v4 <|
  hpI 7 l0 7 0 <|
  hnewA 20 4 fun v5 =>
  hpR 7 l0 8 v5 <|
  hnewA 20 36 fun v6 =>
  hpR 7 l0 9 v6 <|
  hpI 7 l0 10 0 <|
  hnewA 20 8 fun v7 =>
  hpR 7 l0 11 v7 <|
  hnewA 20 8 fun v8 =>
  hpR 7 l0 12 v8 <|
  hnewA 20 8 fun v9 =>
  hpR 7 l0 13 v9 <|
  hnewA 20 8 fun v10 =>
  hpR 7 l0 14 v10 <|
  hnewA 20 64 fun v11 =>
  hpR 7 l0 15 v11 <|
  hret 0
set_option maxRecDepth 4000 in
set_option maxHeartbeats 20000000 in
theorem z_X7_init (d : Nat) (hd : 3 ≤ d) {C : hCx} (K : hCtx C.1 C.2.2.1 d 17 191 "<init>" C) (X : hOK C cX7_init RX7 1 none) (l0 : Nat) (p0 : 0 < l0) : hSim C none 17 191 1 0 [(0, vR C.1.1 l0)] [] 0 0 (m_X7_init l0) := by
  obtain ⟨⟨hf, hlo⟩, ⟨hc1, hc2⟩, hf1, hl1⟩ := K_room K (by omega)
  have hcs : 0 ≤ C.2.2.2.2.1.cells ∧ 0 ≤ C.2.2.2.2.1.slots := ⟨Nat.zero_le _, Nat.zero_le _⟩
  unfold m_X7_init
  refine s_aload_n (j := 0) (pc2 := 1) X dX7_init_0 rfl rfl ?_
  refine s_objI (pc2 := 4) X dX7_init_1 rfl ml_RX7_3 im_objectInit co_objectInit p0 hf1 hl1 (st_room (Nat.le_of_ble_eq_true rfl)) ?_
  refine s_aload_n (j := 0) (pc2 := 5) X dX7_init_4 rfl rfl ?_
  refine s_iconst (n := 0) (pc2 := 6) X dX7_init_5 rfl ?_
  refine s_putI (pc2 := 9) X dX7_init_6 rfl fl_RX7_9 (Or.inl rfl) rfl (inI_c 0 rfl) ?_
  refine s_aload_n (j := 0) (pc2 := 10) X dX7_init_9 rfl rfl ?_
  refine s_iconst (n := 0) (pc2 := 11) X dX7_init_10 rfl ?_
  refine s_putI (pc2 := 14) X dX7_init_11 rfl fl_RX7_15 (Or.inl rfl) rfl (inI_c 0 rfl) ?_
  refine s_aload_n (j := 0) (pc2 := 15) X dX7_init_14 rfl rfl ?_
  refine s_new (pc2 := 18) X dX7_init_15 rfl kX1 cl_RX7_18 kdX1 (by rw [hc1]; exact Nat.le_of_ble_eq_true rfl) (by rw [hc2]; exact Nat.le_of_ble_eq_true rfl) (fun v1 => ?_)
  refine s_assert (fun pv1 => ?_)
  refine s_cs 1 4 rfl rfl ?_
  refine s_dup (pc2 := 19) X dX7_init_18 rfl (vR_cat _ _) ?_
  refine s_bipush (n := 9) (pc2 := 21) X dX7_init_19 rfl rfl ?_
  refine s_callI (d2 := d - 1) (mc2 := 3) (ms2 := 27) (As := [vI 9]) (st := [vR C.1.1 v1, vR C.1.1 l0]) (pc2 := 24) X dX7_init_21 rfl ml_RX7_20 im_X1_init rfl (c_X1_init_9 (d - 1) (by omega) C.1 C.2.2.1 v1 pv1) hy_X1_init rfl rfl pv1 hf hlo (st_room (Nat.le_of_ble_eq_true rfl)) ⟨by rw [hc1]; exact Nat.le_of_ble_eq_true rfl, by rw [hc2]; exact Nat.le_of_ble_eq_true rfl⟩ (fun _ => ?_)
  refine s_cs 4 31 rfl rfl ?_
  refine s_putR (pc2 := 27) X dX7_init_24 rfl fl_RX7_23 (Or.inr ⟨K.2.2.2, _, rfl, rfl⟩) rfl ?_
  refine s_aload_n (j := 0) (pc2 := 28) X dX7_init_27 rfl rfl ?_
  refine s_new (pc2 := 31) X dX7_init_28 rfl kX1 cl_RX7_18 kdX1 (by rw [hc1]; exact Nat.le_of_ble_eq_true rfl) (by rw [hc2]; exact Nat.le_of_ble_eq_true rfl) (fun v2 => ?_)
  refine s_assert (fun pv2 => ?_)
  refine s_cs 5 35 rfl rfl ?_
  refine s_dup (pc2 := 32) X dX7_init_31 rfl (vR_cat _ _) ?_
  refine s_iconst (n := 4) (pc2 := 33) X dX7_init_32 rfl ?_
  refine s_callI (d2 := d - 1) (mc2 := 3) (ms2 := 12) (As := [vI 4]) (st := [vR C.1.1 v2, vR C.1.1 l0]) (pc2 := 36) X dX7_init_33 rfl ml_RX7_20 im_X1_init rfl (c_X1_init_4 (d - 1) (by omega) C.1 C.2.2.1 v2 pv2) hy_X1_init rfl rfl pv2 hf hlo (st_room (Nat.le_of_ble_eq_true rfl)) ⟨by rw [hc1]; exact Nat.le_of_ble_eq_true rfl, by rw [hc2]; exact Nat.le_of_ble_eq_true rfl⟩ (fun _ => ?_)
  refine s_cs 8 47 rfl rfl ?_
  refine s_putR (pc2 := 39) X dX7_init_36 rfl fl_RX7_27 (Or.inr ⟨K.2.2.2, _, rfl, rfl⟩) rfl ?_
  refine s_aload_n (j := 0) (pc2 := 40) X dX7_init_39 rfl rfl ?_
  refine s_iconst (n := 0) (pc2 := 41) X dX7_init_40 rfl ?_
  refine s_putI (pc2 := 44) X dX7_init_41 rfl fl_RX7_30 (Or.inl rfl) rfl (inI_c 0 rfl) ?_
  refine s_aload_n (j := 0) (pc2 := 45) X dX7_init_44 rfl rfl ?_
  refine s_iconst (n := 4) (pc2 := 46) X dX7_init_45 rfl ?_
  refine s_newa20 (N := 4) (pc2 := 48) X dX7_init_46 rfl rfl (by decide) ac_int (by rw [hc1]; exact Nat.le_of_ble_eq_true rfl) (by rw [hc2]; exact Nat.le_of_ble_eq_true rfl) (fun v3 => ?_)
  refine s_cs 9 51 rfl rfl ?_
  refine s_putR (pc2 := 51) X dX7_init_48 rfl fl_RX7_33 (Or.inr ⟨K.2.2.2, _, rfl, rfl⟩) rfl ?_
  refine s_aload_n (j := 0) (pc2 := 52) X dX7_init_51 rfl rfl ?_
  refine s_iconst (n := 4) (pc2 := 53) X dX7_init_52 rfl ?_
  refine s_newa20 (N := 4) (pc2 := 55) X dX7_init_53 rfl rfl (by decide) ac_int (by rw [hc1]; exact Nat.le_of_ble_eq_true rfl) (by rw [hc2]; exact Nat.le_of_ble_eq_true rfl) (fun v4 => ?_)
  refine s_cs 10 55 rfl rfl ?_
  refine s_putR (pc2 := 58) X dX7_init_55 rfl fl_RX7_37 (Or.inr ⟨K.2.2.2, _, rfl, rfl⟩) rfl ?_
  refine s_aload_n (j := 0) (pc2 := 59) X dX7_init_58 rfl rfl ?_
  refine s_iconst (n := 0) (pc2 := 60) X dX7_init_59 rfl ?_
  refine s_putI (pc2 := 63) X dX7_init_60 rfl fl_RX7_40 (Or.inl rfl) rfl (inI_c 0 rfl) ?_
  refine s_aload_n (j := 0) (pc2 := 64) X dX7_init_63 rfl rfl ?_
  refine s_iconst (n := 4) (pc2 := 65) X dX7_init_64 rfl ?_
  refine s_newa20 (N := 4) (pc2 := 67) X dX7_init_65 rfl rfl (by decide) ac_int (by rw [hc1]; exact Nat.le_of_ble_eq_true rfl) (by rw [hc2]; exact Nat.le_of_ble_eq_true rfl) (fun v5 => ?_)
  refine s_cs 11 59 rfl rfl ?_
  refine s_putR (pc2 := 70) X dX7_init_67 rfl fl_RX7_43 (Or.inr ⟨K.2.2.2, _, rfl, rfl⟩) rfl ?_
  refine s_aload_n (j := 0) (pc2 := 71) X dX7_init_70 rfl rfl ?_
  refine s_bipush (n := 36) (pc2 := 73) X dX7_init_71 rfl rfl ?_
  refine s_newa20 (N := 36) (pc2 := 75) X dX7_init_73 rfl rfl (by decide) ac_int (by rw [hc1]; exact Nat.le_of_ble_eq_true rfl) (by rw [hc2]; exact Nat.le_of_ble_eq_true rfl) (fun v6 => ?_)
  refine s_cs 12 95 rfl rfl ?_
  refine s_putR (pc2 := 78) X dX7_init_75 rfl fl_RX7_46 (Or.inr ⟨K.2.2.2, _, rfl, rfl⟩) rfl ?_
  refine s_aload_n (j := 0) (pc2 := 79) X dX7_init_78 rfl rfl ?_
  refine s_iconst (n := 0) (pc2 := 80) X dX7_init_79 rfl ?_
  refine s_putI (pc2 := 83) X dX7_init_80 rfl fl_RX7_49 (Or.inl rfl) rfl (inI_c 0 rfl) ?_
  refine s_aload_n (j := 0) (pc2 := 84) X dX7_init_83 rfl rfl ?_
  refine s_bipush (n := 8) (pc2 := 86) X dX7_init_84 rfl rfl ?_
  refine s_newa20 (N := 8) (pc2 := 88) X dX7_init_86 rfl rfl (by decide) ac_int (by rw [hc1]; exact Nat.le_of_ble_eq_true rfl) (by rw [hc2]; exact Nat.le_of_ble_eq_true rfl) (fun v7 => ?_)
  refine s_cs 13 103 rfl rfl ?_
  refine s_putR (pc2 := 91) X dX7_init_88 rfl fl_RX7_52 (Or.inr ⟨K.2.2.2, _, rfl, rfl⟩) rfl ?_
  refine s_aload_n (j := 0) (pc2 := 92) X dX7_init_91 rfl rfl ?_
  refine s_bipush (n := 8) (pc2 := 94) X dX7_init_92 rfl rfl ?_
  refine s_newa20 (N := 8) (pc2 := 96) X dX7_init_94 rfl rfl (by decide) ac_int (by rw [hc1]; exact Nat.le_of_ble_eq_true rfl) (by rw [hc2]; exact Nat.le_of_ble_eq_true rfl) (fun v8 => ?_)
  refine s_cs 14 111 rfl rfl ?_
  refine s_putR (pc2 := 99) X dX7_init_96 rfl fl_RX7_55 (Or.inr ⟨K.2.2.2, _, rfl, rfl⟩) rfl ?_
  refine s_aload_n (j := 0) (pc2 := 100) X dX7_init_99 rfl rfl ?_
  refine s_bipush (n := 8) (pc2 := 102) X dX7_init_100 rfl rfl ?_
  refine s_newa20 (N := 8) (pc2 := 104) X dX7_init_102 rfl rfl (by decide) ac_int (by rw [hc1]; exact Nat.le_of_ble_eq_true rfl) (by rw [hc2]; exact Nat.le_of_ble_eq_true rfl) (fun v9 => ?_)
  refine s_cs 15 119 rfl rfl ?_
  refine s_putR (pc2 := 107) X dX7_init_104 rfl fl_RX7_58 (Or.inr ⟨K.2.2.2, _, rfl, rfl⟩) rfl ?_
  refine s_aload_n (j := 0) (pc2 := 108) X dX7_init_107 rfl rfl ?_
  refine s_bipush (n := 8) (pc2 := 110) X dX7_init_108 rfl rfl ?_
  refine s_newa20 (N := 8) (pc2 := 112) X dX7_init_110 rfl rfl (by decide) ac_int (by rw [hc1]; exact Nat.le_of_ble_eq_true rfl) (by rw [hc2]; exact Nat.le_of_ble_eq_true rfl) (fun v10 => ?_)
  refine s_cs 16 127 rfl rfl ?_
  refine s_putR (pc2 := 115) X dX7_init_112 rfl fl_RX7_61 (Or.inr ⟨K.2.2.2, _, rfl, rfl⟩) rfl ?_
  refine s_aload_n (j := 0) (pc2 := 116) X dX7_init_115 rfl rfl ?_
  refine s_bipush (n := 64) (pc2 := 118) X dX7_init_116 rfl rfl ?_
  refine s_newa20 (N := 64) (pc2 := 120) X dX7_init_118 rfl rfl (by decide) ac_int (by rw [hc1]; exact Nat.le_of_ble_eq_true rfl) (by rw [hc2]; exact Nat.le_of_ble_eq_true rfl) (fun v11 => ?_)
  refine s_cs 17 191 rfl rfl ?_
  refine s_putR (pc2 := 123) X dX7_init_120 rfl fl_RX7_64 (Or.inr ⟨K.2.2.2, _, rfl, rfl⟩) rfl ?_
  exact s_ret X dX7_init_123
theorem c_X7_init (d : Nat) (hd : 3 ≤ d) (G : hG) (l : Launch) (l0 : Nat) (p0 : 0 < l0) : hMet G l yX7_init cX7_init 1 none d 17 191 [vR G.1 l0] (m_X7_init l0) := by
  refine hMet.of (lv := [(0, vR G.1 l0)]) (by decide +kernel) (by simp [lg_sl, vR_cat, vI_cat, vL_cat, vS_cat2, vT_cat2]) (by simp [lv_args, vR_cat, vI_cat, vL_cat, vS_cat2, vT_cat2]) (fun C K X => ?_)
  obtain ⟨rfl, rfl, K⟩ := K
  exact z_X7_init d hd ⟨rfl, rfl, K⟩ X l0 p0
def m_X7_isFull_L69 (s0 : Int) : hM :=
  hretZ s0
def m_X7_isFull_L83 (s0 : Int) : hM :=
  hretZ s0
def m_X7_isFull_L99 : hM :=
  hretZ 0
def m_X7_isFull_L98 (s0 : Int) : hM :=
  hretZ s0
def m_X7_isFull (l0 : Nat) (l1 : Int) : hM :=
  hif (l1 = 1) (
hgR 7 l0 2 fun v1 =>
  hcallV 1 v1 (m_X1_isFull v1) fun v2 =>
  hretZ v2) <|
  hif (l1 = 2) (
hgR 7 l0 3 fun v3 =>
  hcallV 1 v3 (m_X1_isFull v3) fun v4 =>
  hretZ v4) <|
  hif (l1 = 3) (
hgI 7 l0 4 fun v5 =>
  hif (v5 < 4) (
m_X7_isFull_L69 0) (
m_X7_isFull_L69 1)) <|
  hif (l1 = 4) (
hgI 7 l0 7 fun v6 =>
  hif (v6 < 4) (
m_X7_isFull_L83 0) (
m_X7_isFull_L83 1)) <|
  hif (l1 = 5) (
m_X7_isFull_L99) <|
  hif (l1 = 6) (
hgI 7 l0 10 fun v7 =>
  hif (v7 < 8) (
m_X7_isFull_L98 0) (
m_X7_isFull_L98 1)) <|
  m_X7_isFull_L99
set_option maxRecDepth 4000 in
theorem z_X7_isFull_L69 (d : Nat) (hd : 2 ≤ d) {C : hCx} (K : hCtx C.1 C.2.2.1 d 0 0 "isFull" C) (X : hOK C cX7_isFull RX7 2 (some .boolean)) (s0 : Int) (g0 : inI s0) : hSim C (some .boolean) 0 0 2 69 [] [vI s0] 0 0 (m_X7_isFull_L69 s0) := by
  obtain ⟨⟨hf, hlo⟩, ⟨hc1, hc2⟩, hf1, hl1⟩ := K_room K (by omega)
  have hcs : 0 ≤ C.2.2.2.2.1.cells ∧ 0 ≤ C.2.2.2.2.1.slots := ⟨Nat.zero_le _, Nat.zero_le _⟩
  unfold m_X7_isFull_L69
  exact s_zret X dX7_isFull_69
set_option maxRecDepth 4000 in
theorem z_X7_isFull_L83 (d : Nat) (hd : 2 ≤ d) {C : hCx} (K : hCtx C.1 C.2.2.1 d 0 0 "isFull" C) (X : hOK C cX7_isFull RX7 2 (some .boolean)) (s0 : Int) (g0 : inI s0) : hSim C (some .boolean) 0 0 2 83 [] [vI s0] 0 0 (m_X7_isFull_L83 s0) := by
  obtain ⟨⟨hf, hlo⟩, ⟨hc1, hc2⟩, hf1, hl1⟩ := K_room K (by omega)
  have hcs : 0 ≤ C.2.2.2.2.1.cells ∧ 0 ≤ C.2.2.2.2.1.slots := ⟨Nat.zero_le _, Nat.zero_le _⟩
  unfold m_X7_isFull_L83
  exact s_zret X dX7_isFull_83
set_option maxRecDepth 4000 in
theorem z_X7_isFull_L99 (d : Nat) (hd : 2 ≤ d) {C : hCx} (K : hCtx C.1 C.2.2.1 d 0 0 "isFull" C) (X : hOK C cX7_isFull RX7 2 (some .boolean)) : hSim C (some .boolean) 0 0 2 99 [] [] 0 0 (m_X7_isFull_L99) := by
  obtain ⟨⟨hf, hlo⟩, ⟨hc1, hc2⟩, hf1, hl1⟩ := K_room K (by omega)
  have hcs : 0 ≤ C.2.2.2.2.1.cells ∧ 0 ≤ C.2.2.2.2.1.slots := ⟨Nat.zero_le _, Nat.zero_le _⟩
  unfold m_X7_isFull_L99
  refine s_iconst (n := 0) (pc2 := 100) X dX7_isFull_99 rfl ?_
  exact s_zret X dX7_isFull_100
set_option maxRecDepth 4000 in
theorem z_X7_isFull_L98 (d : Nat) (hd : 2 ≤ d) {C : hCx} (K : hCtx C.1 C.2.2.1 d 0 0 "isFull" C) (X : hOK C cX7_isFull RX7 2 (some .boolean)) (s0 : Int) (g0 : inI s0) : hSim C (some .boolean) 0 0 2 98 [] [vI s0] 0 0 (m_X7_isFull_L98 s0) := by
  obtain ⟨⟨hf, hlo⟩, ⟨hc1, hc2⟩, hf1, hl1⟩ := K_room K (by omega)
  have hcs : 0 ≤ C.2.2.2.2.1.cells ∧ 0 ≤ C.2.2.2.2.1.slots := ⟨Nat.zero_le _, Nat.zero_le _⟩
  unfold m_X7_isFull_L98
  exact s_zret X dX7_isFull_98
set_option maxRecDepth 4000 in
set_option maxHeartbeats 20000000 in
theorem z_X7_isFull (d : Nat) (hd : 2 ≤ d) {C : hCx} (K : hCtx C.1 C.2.2.1 d 0 0 "isFull" C) (X : hOK C cX7_isFull RX7 2 (some .boolean)) (l0 : Nat) (l1 : Int) (h1 : inI l1) : hSim C (some .boolean) 0 0 2 0 [(0, vR C.1.1 l0), (1, vI l1)] [] 0 0 (m_X7_isFull l0 l1) := by
  obtain ⟨⟨hf, hlo⟩, ⟨hc1, hc2⟩, hf1, hl1⟩ := K_room K (by omega)
  have hcs : 0 ≤ C.2.2.2.2.1.cells ∧ 0 ≤ C.2.2.2.2.1.slots := ⟨Nat.zero_le _, Nat.zero_le _⟩
  unfold m_X7_isFull
  refine s_iload_n (j := 1) (pc2 := 1) X dX7_isFull_0 rfl rfl ?_
  refine s_split (fun e1_0 => ?_) (fun e1_0 => ?_)
  · refine s_tsin (tgt := 40) 1 X dX7_isFull_1 e1_0 (inI_c 1 rfl) (by decide) (by decide) rfl (by decide) ?_
    refine s_aload_n (j := 0) (pc2 := 41) X dX7_isFull_40 rfl rfl ?_
    refine s_getR (pc2 := 44) X dX7_isFull_41 rfl fl_RX7_23 rfl (fun v1 => ?_)
    refine s_callVZ (d2 := d - 1) (As := []) (st := []) (pc2 := 47) X dX7_isFull_44 rfl ml_RX7_124 im_X1_isFull se_X1_isFull kX1 rfl (c_X1_isFull (d - 1) (by omega) C.1 C.2.2.1 v1) hy_X1_isFull rfl rfl hf hlo (st_room (Nat.le_of_ble_eq_true rfl)) hcs (fun v2 hv2 => ?_)
    exact s_zret X dX7_isFull_47
  refine s_split (fun e1_1 => ?_) (fun e1_1 => ?_)
  · refine s_tsin (tgt := 48) 2 X dX7_isFull_1 e1_1 (inI_c 2 rfl) (by decide) (by decide) rfl (by decide) ?_
    refine s_aload_n (j := 0) (pc2 := 49) X dX7_isFull_48 rfl rfl ?_
    refine s_getR (pc2 := 52) X dX7_isFull_49 rfl fl_RX7_27 rfl (fun v3 => ?_)
    refine s_callVZ (d2 := d - 1) (As := []) (st := []) (pc2 := 55) X dX7_isFull_52 rfl ml_RX7_124 im_X1_isFull se_X1_isFull kX1 rfl (c_X1_isFull (d - 1) (by omega) C.1 C.2.2.1 v3) hy_X1_isFull rfl rfl hf hlo (st_room (Nat.le_of_ble_eq_true rfl)) hcs (fun v4 hv4 => ?_)
    exact s_zret X dX7_isFull_55
  refine s_split (fun e1_2 => ?_) (fun e1_2 => ?_)
  · refine s_tsin (tgt := 56) 3 X dX7_isFull_1 e1_2 (inI_c 3 rfl) (by decide) (by decide) rfl (by decide) ?_
    refine s_aload_n (j := 0) (pc2 := 57) X dX7_isFull_56 rfl rfl ?_
    refine s_getI (pc2 := 60) X dX7_isFull_57 rfl fl_RX7_30 rfl (fun v5 hv5 => ?_)
    refine s_iconst (n := 4) (pc2 := 61) X dX7_isFull_60 rfl ?_
    refine s_iclt (tgt := 68) X dX7_isFull_61 (by decide) rfl hv5 (inI_c 4 rfl) ?_ ?_
    · refine s_iconst (n := 0) (pc2 := 69) X dX7_isFull_68 rfl ?_
      refine s_sub (lv2 := []) [] rfl ?_
      exact z_X7_isFull_L69 d hd K X 0 (inI_c 0 rfl)
    · refine s_iconst (n := 1) (pc2 := 65) X dX7_isFull_64 rfl ?_
      refine s_goto (pc2 := 69) X dX7_isFull_65 (by decide) ?_
      refine s_sub (lv2 := []) [] rfl ?_
      exact z_X7_isFull_L69 d hd K X 1 (inI_c 1 rfl)
  refine s_split (fun e1_3 => ?_) (fun e1_3 => ?_)
  · refine s_tsin (tgt := 70) 4 X dX7_isFull_1 e1_3 (inI_c 4 rfl) (by decide) (by decide) rfl (by decide) ?_
    refine s_aload_n (j := 0) (pc2 := 71) X dX7_isFull_70 rfl rfl ?_
    refine s_getI (pc2 := 74) X dX7_isFull_71 rfl fl_RX7_40 rfl (fun v6 hv6 => ?_)
    refine s_iconst (n := 4) (pc2 := 75) X dX7_isFull_74 rfl ?_
    refine s_iclt (tgt := 82) X dX7_isFull_75 (by decide) rfl hv6 (inI_c 4 rfl) ?_ ?_
    · refine s_iconst (n := 0) (pc2 := 83) X dX7_isFull_82 rfl ?_
      refine s_sub (lv2 := []) [] rfl ?_
      exact z_X7_isFull_L83 d hd K X 0 (inI_c 0 rfl)
    · refine s_iconst (n := 1) (pc2 := 79) X dX7_isFull_78 rfl ?_
      refine s_goto (pc2 := 83) X dX7_isFull_79 (by decide) ?_
      refine s_sub (lv2 := []) [] rfl ?_
      exact z_X7_isFull_L83 d hd K X 1 (inI_c 1 rfl)
  refine s_split (fun e1_4 => ?_) (fun e1_4 => ?_)
  · refine s_tsin (tgt := 99) 5 X dX7_isFull_1 e1_4 (inI_c 5 rfl) (by decide) (by decide) rfl (by decide) ?_
    refine s_sub (lv2 := []) [] rfl ?_
    exact z_X7_isFull_L99 d hd K X
  refine s_split (fun e1_5 => ?_) (fun e1_5 => ?_)
  · refine s_tsin (tgt := 84) 6 X dX7_isFull_1 e1_5 (inI_c 6 rfl) (by decide) (by decide) rfl (by decide) ?_
    refine s_aload_n (j := 0) (pc2 := 85) X dX7_isFull_84 rfl rfl ?_
    refine s_getI (pc2 := 88) X dX7_isFull_85 rfl fl_RX7_49 rfl (fun v7 hv7 => ?_)
    refine s_bipush (n := 8) (pc2 := 90) X dX7_isFull_88 rfl rfl ?_
    refine s_iclt (tgt := 97) X dX7_isFull_90 (by decide) rfl hv7 (inI_c 8 rfl) ?_ ?_
    · refine s_iconst (n := 0) (pc2 := 98) X dX7_isFull_97 rfl ?_
      refine s_sub (lv2 := []) [] rfl ?_
      exact z_X7_isFull_L98 d hd K X 0 (inI_c 0 rfl)
    · refine s_iconst (n := 1) (pc2 := 94) X dX7_isFull_93 rfl ?_
      refine s_goto (pc2 := 98) X dX7_isFull_94 (by decide) ?_
      refine s_sub (lv2 := []) [] rfl ?_
      exact z_X7_isFull_L98 d hd K X 1 (inI_c 1 rfl)
  refine s_tsout (tgt := 99) X dX7_isFull_1 h1 (by omega) (by decide) ?_
  refine s_sub (lv2 := []) [] rfl ?_
  exact z_X7_isFull_L99 d hd K X
theorem c_X7_isFull (d : Nat) (hd : 2 ≤ d) (G : hG) (l : Launch) (l0 : Nat) (l1 : Int) (h1 : inI l1) : hMet G l yX7_isFull cX7_isFull 2 (some .boolean) d 0 0 [vR G.1 l0, vI l1] (m_X7_isFull l0 l1) := by
  refine hMet.of (lv := [(0, vR G.1 l0), (1, vI l1)]) (by decide +kernel) (by simp [lg_sl, vR_cat, vI_cat, vL_cat, vS_cat2, vT_cat2]) (by simp [lv_args, vR_cat, vI_cat, vL_cat, vS_cat2, vT_cat2]) (fun C K X => ?_)
  obtain ⟨rfl, rfl, K⟩ := K
  exact z_X7_isFull d hd ⟨rfl, rfl, K⟩ X l0 l1 h1
def m_X7_readLink_L61 : hM :=
  hret 0
def m_X7_readLink_L47 (l1 : Nat) (l2 : Nat) (l3 : Int) (l4 : Int) : hM :=
  hgI 6 l1 4 fun v1 =>
  hif (v1 ≠ 0) (
m_X7_readLink_L61) (
hcallV 1 l2 (m_X1_add l2 l3 l4) fun _ =>
  m_X7_readLink_L61)
def m_X7_readLink (l0 : Nat) (l1 : Nat) (l2 : Nat) : hM :=
  hgI 7 l0 0 fun v1 =>
  hcallV 6 l1 (m_X6_number l1 0 ((w32 (v1 - 1)))) fun v2 =>
  hlet v2 fun (w3 : Int) =>
  hgI 7 l0 0 fun v4 =>
  hcallV 6 l1 (m_X6_number l1 0 ((w32 (v4 - 1)))) fun v5 =>
  hlet v5 fun (w6 : Int) =>
  hgI 6 l1 4 fun v7 =>
  hif (v7 ≠ 0) (
m_X7_readLink_L47 l1 l2 w3 w6) (
hif (w3 ≠ w6) (
m_X7_readLink_L47 l1 l2 w3 w6) (
hgI 6 l1 3 fun v8 =>
  hcallV 6 l1 (m_X6_fail l1 v8 1) fun _ =>
  m_X7_readLink_L47 l1 l2 w3 w6))
set_option maxRecDepth 4000 in
theorem z_X7_readLink_L61 (d : Nat) (hd : 3 ≤ d) {C : hCx} (K : hCtx C.1 C.2.2.1 d 0 0 "readLink" C) (X : hOK C cX7_readLink RX7 5 none) : hSim C none 0 0 5 61 [] [] 0 0 (m_X7_readLink_L61) := by
  obtain ⟨⟨hf, hlo⟩, ⟨hc1, hc2⟩, hf1, hl1⟩ := K_room K (by omega)
  have hcs : 0 ≤ C.2.2.2.2.1.cells ∧ 0 ≤ C.2.2.2.2.1.slots := ⟨Nat.zero_le _, Nat.zero_le _⟩
  unfold m_X7_readLink_L61
  exact s_ret X dX7_readLink_61
set_option maxRecDepth 4000 in
theorem z_X7_readLink_L47 (d : Nat) (hd : 3 ≤ d) {C : hCx} (K : hCtx C.1 C.2.2.1 d 0 0 "readLink" C) (X : hOK C cX7_readLink RX7 5 none) (l1 : Nat) (l2 : Nat) (l3 : Int) (l4 : Int) (h3 : inI l3) (h4 : inI l4) : hSim C none 0 0 5 47 [(1, vR C.1.1 l1), (2, vR C.1.1 l2), (3, vI l3), (4, vI l4)] [] 0 0 (m_X7_readLink_L47 l1 l2 l3 l4) := by
  obtain ⟨⟨hf, hlo⟩, ⟨hc1, hc2⟩, hf1, hl1⟩ := K_room K (by omega)
  have hcs : 0 ≤ C.2.2.2.2.1.cells ∧ 0 ≤ C.2.2.2.2.1.slots := ⟨Nat.zero_le _, Nat.zero_le _⟩
  unfold m_X7_readLink_L47
  refine s_aload_n (j := 0) (pc2 := 48) X dX7_readLink_47 rfl rfl ?_
  refine s_getI (pc2 := 51) X dX7_readLink_48 rfl fl_RX7_80 rfl (fun v1 hv1 => ?_)
  refine s_ifne (tgt := 61) X dX7_readLink_51 (by decide) rfl hv1 ?_ ?_
  · refine s_sub (lv2 := []) [] rfl ?_
    exact z_X7_readLink_L61 d hd K X
  · refine s_aload_n (j := 1) (pc2 := 55) X dX7_readLink_54 rfl rfl ?_
    refine s_iload_n (j := 2) (pc2 := 56) X dX7_readLink_55 rfl rfl ?_
    refine s_iload (j := 3) (pc2 := 58) X dX7_readLink_56 rfl rfl ?_
    refine s_callVV (d2 := d - 1) (As := [vI l3, vI l4]) (st := []) (pc2 := 61) X dX7_readLink_58 rfl ml_RX7_126 im_X1_add se_X1_add kX1 rfl (c_X1_add (d - 1) (by omega) C.1 C.2.2.1 l2 l3 l4 h3 h4) hy_X1_add rfl rfl hf hlo (st_room (Nat.le_of_ble_eq_true rfl)) hcs (fun _ => ?_)
    refine s_sub (lv2 := []) [] rfl ?_
    exact z_X7_readLink_L61 d hd K X
set_option maxRecDepth 4000 in
set_option maxHeartbeats 20000000 in
theorem z_X7_readLink (d : Nat) (hd : 3 ≤ d) {C : hCx} (K : hCtx C.1 C.2.2.1 d 0 0 "readLink" C) (X : hOK C cX7_readLink RX7 5 none) (l0 : Nat) (l1 : Nat) (l2 : Nat) : hSim C none 0 0 5 0 [(0, vR C.1.1 l0), (1, vR C.1.1 l1), (2, vR C.1.1 l2)] [] 0 0 (m_X7_readLink l0 l1 l2) := by
  obtain ⟨⟨hf, hlo⟩, ⟨hc1, hc2⟩, hf1, hl1⟩ := K_room K (by omega)
  have hcs : 0 ≤ C.2.2.2.2.1.cells ∧ 0 ≤ C.2.2.2.2.1.slots := ⟨Nat.zero_le _, Nat.zero_le _⟩
  unfold m_X7_readLink
  refine s_aload_n (j := 1) (pc2 := 1) X dX7_readLink_0 rfl rfl ?_
  refine s_iconst (n := 0) (pc2 := 2) X dX7_readLink_1 rfl ?_
  refine s_aload_n (j := 0) (pc2 := 3) X dX7_readLink_2 rfl rfl ?_
  refine s_getI (pc2 := 6) X dX7_readLink_3 rfl fl_RX7_9 rfl (fun v1 hv1 => ?_)
  refine s_iconst (n := 1) (pc2 := 7) X dX7_readLink_6 rfl ?_
  refine s_isub (pc2 := 8) X dX7_readLink_7 rfl ?_
  refine s_callVI (d2 := d - 1) (As := [vI 0, vI ((w32 (v1 - 1)))]) (st := []) (pc2 := 11) X dX7_readLink_8 rfl ml_RX7_103 im_X6_number se_X6_number kX6 rfl (c_X6_number (d - 1) (by omega) C.1 C.2.2.1 l1 0 ((w32 (v1 - 1))) (inI_c 0 rfl) (w32_in _)) hy_X6_number rfl rfl hf hlo (st_room (Nat.le_of_ble_eq_true rfl)) hcs (fun v2 hv2 => ?_)
  refine s_istore_n (pc2 := 12) X dX7_readLink_11 rfl (by decide) rfl rfl cat1_R hv2 (fun w3 hw3 => ?_)
  refine s_aload_n (j := 2) (pc2 := 13) X dX7_readLink_12 rfl rfl ?_
  refine s_iconst (n := 0) (pc2 := 14) X dX7_readLink_13 rfl ?_
  refine s_aload_n (j := 1) (pc2 := 15) X dX7_readLink_14 rfl rfl ?_
  refine s_getI (pc2 := 18) X dX7_readLink_15 rfl fl_RX7_9 rfl (fun v4 hv4 => ?_)
  refine s_iconst (n := 1) (pc2 := 19) X dX7_readLink_18 rfl ?_
  refine s_isub (pc2 := 20) X dX7_readLink_19 rfl ?_
  refine s_callVI (d2 := d - 1) (As := [vI 0, vI ((w32 (v4 - 1)))]) (st := []) (pc2 := 23) X dX7_readLink_20 rfl ml_RX7_103 im_X6_number se_X6_number kX6 rfl (c_X6_number (d - 1) (by omega) C.1 C.2.2.1 l1 0 ((w32 (v4 - 1))) (inI_c 0 rfl) (w32_in _)) hy_X6_number rfl rfl hf hlo (st_room (Nat.le_of_ble_eq_true rfl)) hcs (fun v5 hv5 => ?_)
  refine s_istore (pc2 := 25) X dX7_readLink_23 rfl (by decide) rfl rfl cat1_I hv5 (fun w6 hw6 => ?_)
  refine s_aload_n (j := 3) (pc2 := 26) X dX7_readLink_25 rfl rfl ?_
  refine s_getI (pc2 := 29) X dX7_readLink_26 rfl fl_RX7_80 rfl (fun v7 hv7 => ?_)
  refine s_ifne (tgt := 47) X dX7_readLink_29 (by decide) rfl hv7 ?_ ?_
  · refine s_sub (lv2 := [(1, vR C.1.1 l1), (2, vR C.1.1 l2), (3, vI w3), (4, vI w6)]) [3, 4, 1, 0] rfl ?_
    exact z_X7_readLink_L47 d hd K X l1 l2 w3 w6 hw3 hw6
  · refine s_iload_n (j := 1) (pc2 := 33) X dX7_readLink_32 rfl rfl ?_
    refine s_iload (j := 0) (pc2 := 35) X dX7_readLink_33 rfl rfl ?_
    refine s_icne (tgt := 47) X dX7_readLink_35 (by decide) rfl hw3 hw6 ?_ ?_
    · refine s_sub (lv2 := [(1, vR C.1.1 l1), (2, vR C.1.1 l2), (3, vI w3), (4, vI w6)]) [3, 4, 1, 0] rfl ?_
      exact z_X7_readLink_L47 d hd K X l1 l2 w3 w6 hw3 hw6
    · refine s_aload_n (j := 3) (pc2 := 39) X dX7_readLink_38 rfl rfl ?_
      refine s_aload_n (j := 3) (pc2 := 40) X dX7_readLink_39 rfl rfl ?_
      refine s_getI (pc2 := 43) X dX7_readLink_40 rfl fl_RX7_96 rfl (fun v8 hv8 => ?_)
      refine s_iconst (n := 1) (pc2 := 44) X dX7_readLink_43 rfl ?_
      refine s_callVV (d2 := d - 1) (As := [vI v8, vI 1]) (st := []) (pc2 := 47) X dX7_readLink_44 rfl ml_RX7_99 im_X6_fail se_X6_fail kX6 rfl (c_X6_fail (d - 1) (by omega) C.1 C.2.2.1 l1 v8 1 hv8 (inI_c 1 rfl)) hy_X6_fail rfl rfl hf hlo (st_room (Nat.le_of_ble_eq_true rfl)) hcs (fun _ => ?_)
      refine s_sub (lv2 := [(1, vR C.1.1 l1), (2, vR C.1.1 l2), (3, vI w3), (4, vI w6)]) [3, 4, 1, 0] rfl ?_
      exact z_X7_readLink_L47 d hd K X l1 l2 w3 w6 hw3 hw6
theorem c_X7_readLink (d : Nat) (hd : 3 ≤ d) (G : hG) (l : Launch) (l0 : Nat) (l1 : Nat) (l2 : Nat) : hMet G l yX7_readLink cX7_readLink 5 none d 0 0 [vR G.1 l0, vR G.1 l1, vR G.1 l2] (m_X7_readLink l0 l1 l2) := by
  refine hMet.of (lv := [(0, vR G.1 l0), (1, vR G.1 l1), (2, vR G.1 l2)]) (by decide +kernel) (by simp [lg_sl, vR_cat, vI_cat, vL_cat, vS_cat2, vT_cat2]) (by simp [lv_args, vR_cat, vI_cat, vL_cat, vS_cat2, vT_cat2]) (fun C K X => ?_)
  obtain ⟨rfl, rfl, K⟩ := K
  exact z_X7_readLink d hd ⟨rfl, rfl, K⟩ X l0 l1 l2
def m_X7_readFrost_L53 : hM :=
  hret 0
def m_X7_readFrost (l0 : Nat) (l1 : Nat) : hM :=
  hcallV 6 l1 (m_X6_number l1 0 99) fun v1 =>
  hlet v1 fun (w2 : Int) =>
  hcallV 6 l1 (m_X6_number l1 w2 99) fun v3 =>
  hlet v3 fun (w4 : Int) =>
  hgI 6 l1 4 fun v5 =>
  hif (v5 ≠ 0) (
m_X7_readFrost_L53) (
hgR 7 l0 5 fun v6 =>
  hgI 7 l0 4 fun v7 =>
  hsI 20 v6 v7 w2 <|
  hgR 7 l0 6 fun v8 =>
  hgI 7 l0 4 fun v9 =>
  hsI 20 v8 v9 w4 <|
  hgI 7 l0 4 fun v10 =>
  hpI 7 l0 4 ((w32 (v10 + 1))) <|
  m_X7_readFrost_L53)
set_option maxRecDepth 4000 in
theorem z_X7_readFrost_L53 (d : Nat) (hd : 3 ≤ d) {C : hCx} (K : hCtx C.1 C.2.2.1 d 0 0 "readFrost" C) (X : hOK C cX7_readFrost RX7 4 none) : hSim C none 0 0 4 53 [] [] 0 0 (m_X7_readFrost_L53) := by
  obtain ⟨⟨hf, hlo⟩, ⟨hc1, hc2⟩, hf1, hl1⟩ := K_room K (by omega)
  have hcs : 0 ≤ C.2.2.2.2.1.cells ∧ 0 ≤ C.2.2.2.2.1.slots := ⟨Nat.zero_le _, Nat.zero_le _⟩
  unfold m_X7_readFrost_L53
  exact s_ret X dX7_readFrost_53
set_option maxRecDepth 4000 in
set_option maxHeartbeats 20000000 in
theorem z_X7_readFrost (d : Nat) (hd : 3 ≤ d) {C : hCx} (K : hCtx C.1 C.2.2.1 d 0 0 "readFrost" C) (X : hOK C cX7_readFrost RX7 4 none) (l0 : Nat) (l1 : Nat) : hSim C none 0 0 4 0 [(0, vR C.1.1 l0), (1, vR C.1.1 l1)] [] 0 0 (m_X7_readFrost l0 l1) := by
  obtain ⟨⟨hf, hlo⟩, ⟨hc1, hc2⟩, hf1, hl1⟩ := K_room K (by omega)
  have hcs : 0 ≤ C.2.2.2.2.1.cells ∧ 0 ≤ C.2.2.2.2.1.slots := ⟨Nat.zero_le _, Nat.zero_le _⟩
  unfold m_X7_readFrost
  refine s_aload_n (j := 1) (pc2 := 1) X dX7_readFrost_0 rfl rfl ?_
  refine s_iconst (n := 0) (pc2 := 2) X dX7_readFrost_1 rfl ?_
  refine s_bipush (n := 99) (pc2 := 4) X dX7_readFrost_2 rfl rfl ?_
  refine s_callVI (d2 := d - 1) (As := [vI 0, vI 99]) (st := []) (pc2 := 7) X dX7_readFrost_4 rfl ml_RX7_103 im_X6_number se_X6_number kX6 rfl (c_X6_number (d - 1) (by omega) C.1 C.2.2.1 l1 0 99 (inI_c 0 rfl) (inI_c 99 rfl)) hy_X6_number rfl rfl hf hlo (st_room (Nat.le_of_ble_eq_true rfl)) hcs (fun v1 hv1 => ?_)
  refine s_istore_n (pc2 := 8) X dX7_readFrost_7 rfl (by decide) rfl rfl cat1_R hv1 (fun w2 hw2 => ?_)
  refine s_aload_n (j := 2) (pc2 := 9) X dX7_readFrost_8 rfl rfl ?_
  refine s_iload_n (j := 0) (pc2 := 10) X dX7_readFrost_9 rfl rfl ?_
  refine s_bipush (n := 99) (pc2 := 12) X dX7_readFrost_10 rfl rfl ?_
  refine s_callVI (d2 := d - 1) (As := [vI w2, vI 99]) (st := []) (pc2 := 15) X dX7_readFrost_12 rfl ml_RX7_103 im_X6_number se_X6_number kX6 rfl (c_X6_number (d - 1) (by omega) C.1 C.2.2.1 l1 w2 99 hw2 (inI_c 99 rfl)) hy_X6_number rfl rfl hf hlo (st_room (Nat.le_of_ble_eq_true rfl)) hcs (fun v3 hv3 => ?_)
  refine s_istore_n (pc2 := 16) X dX7_readFrost_15 rfl (by decide) rfl rfl cat1_I hv3 (fun w4 hw4 => ?_)
  refine s_aload_n (j := 3) (pc2 := 17) X dX7_readFrost_16 rfl rfl ?_
  refine s_getI (pc2 := 20) X dX7_readFrost_17 rfl fl_RX7_80 rfl (fun v5 hv5 => ?_)
  refine s_ifne (tgt := 53) X dX7_readFrost_20 (by decide) rfl hv5 ?_ ?_
  · refine s_sub (lv2 := []) [] rfl ?_
    exact z_X7_readFrost_L53 d hd K X
  · refine s_aload_n (j := 2) (pc2 := 24) X dX7_readFrost_23 rfl rfl ?_
    refine s_getR (pc2 := 27) X dX7_readFrost_24 rfl fl_RX7_33 rfl (fun v6 => ?_)
    refine s_aload_n (j := 2) (pc2 := 28) X dX7_readFrost_27 rfl rfl ?_
    refine s_getI (pc2 := 31) X dX7_readFrost_28 rfl fl_RX7_30 rfl (fun v7 hv7 => ?_)
    refine s_iload_n (j := 1) (pc2 := 32) X dX7_readFrost_31 rfl rfl ?_
    refine s_iast (pc2 := 33) X dX7_readFrost_32 rfl hw2 ?_
    refine s_aload_n (j := 2) (pc2 := 34) X dX7_readFrost_33 rfl rfl ?_
    refine s_getR (pc2 := 37) X dX7_readFrost_34 rfl fl_RX7_37 rfl (fun v8 => ?_)
    refine s_aload_n (j := 2) (pc2 := 38) X dX7_readFrost_37 rfl rfl ?_
    refine s_getI (pc2 := 41) X dX7_readFrost_38 rfl fl_RX7_30 rfl (fun v9 hv9 => ?_)
    refine s_iload_n (j := 0) (pc2 := 42) X dX7_readFrost_41 rfl rfl ?_
    refine s_iast (pc2 := 43) X dX7_readFrost_42 rfl hw4 ?_
    refine s_aload_n (j := 2) (pc2 := 44) X dX7_readFrost_43 rfl rfl ?_
    refine s_dup (pc2 := 45) X dX7_readFrost_44 rfl (vR_cat _ _) ?_
    refine s_getI (pc2 := 48) X dX7_readFrost_45 rfl fl_RX7_30 rfl (fun v10 hv10 => ?_)
    refine s_iconst (n := 1) (pc2 := 49) X dX7_readFrost_48 rfl ?_
    refine s_iadd (pc2 := 50) X dX7_readFrost_49 rfl ?_
    refine s_putI (pc2 := 53) X dX7_readFrost_50 rfl fl_RX7_30 (Or.inl rfl) rfl (w32_in _) ?_
    refine s_sub (lv2 := []) [] rfl ?_
    exact z_X7_readFrost_L53 d hd K X
theorem c_X7_readFrost (d : Nat) (hd : 3 ≤ d) (G : hG) (l : Launch) (l0 : Nat) (l1 : Nat) : hMet G l yX7_readFrost cX7_readFrost 4 none d 0 0 [vR G.1 l0, vR G.1 l1] (m_X7_readFrost l0 l1) := by
  refine hMet.of (lv := [(0, vR G.1 l0), (1, vR G.1 l1)]) (by decide +kernel) (by simp [lg_sl, vR_cat, vI_cat, vL_cat, vS_cat2, vT_cat2]) (by simp [lv_args, vR_cat, vI_cat, vL_cat, vS_cat2, vT_cat2]) (fun C K X => ?_)
  obtain ⟨rfl, rfl, K⟩ := K
  exact z_X7_readFrost d hd ⟨rfl, rfl, K⟩ X l0 l1
def m_X7_readPerson_L39 : hM :=
  hret 0
def m_X7_readPerson (l0 : Nat) (l1 : Nat) : hM :=
  hgI 7 l0 0 fun v1 =>
  hcallV 6 l1 (m_X6_number l1 0 ((w32 (v1 - 1)))) fun v2 =>
  hlet v2 fun (w3 : Int) =>
  hgI 6 l1 4 fun v4 =>
  hif (v4 ≠ 0) (
m_X7_readPerson_L39) (
hgR 7 l0 8 fun v5 =>
  hgI 7 l0 7 fun v6 =>
  hsI 20 v5 v6 w3 <|
  hgI 7 l0 7 fun v7 =>
  hpI 7 l0 7 ((w32 (v7 + 1))) <|
  m_X7_readPerson_L39)
set_option maxRecDepth 4000 in
theorem z_X7_readPerson_L39 (d : Nat) (hd : 3 ≤ d) {C : hCx} (K : hCtx C.1 C.2.2.1 d 0 0 "readPerson" C) (X : hOK C cX7_readPerson RX7 3 none) : hSim C none 0 0 3 39 [] [] 0 0 (m_X7_readPerson_L39) := by
  obtain ⟨⟨hf, hlo⟩, ⟨hc1, hc2⟩, hf1, hl1⟩ := K_room K (by omega)
  have hcs : 0 ≤ C.2.2.2.2.1.cells ∧ 0 ≤ C.2.2.2.2.1.slots := ⟨Nat.zero_le _, Nat.zero_le _⟩
  unfold m_X7_readPerson_L39
  exact s_ret X dX7_readPerson_39
set_option maxRecDepth 4000 in
set_option maxHeartbeats 20000000 in
theorem z_X7_readPerson (d : Nat) (hd : 3 ≤ d) {C : hCx} (K : hCtx C.1 C.2.2.1 d 0 0 "readPerson" C) (X : hOK C cX7_readPerson RX7 3 none) (l0 : Nat) (l1 : Nat) : hSim C none 0 0 3 0 [(0, vR C.1.1 l0), (1, vR C.1.1 l1)] [] 0 0 (m_X7_readPerson l0 l1) := by
  obtain ⟨⟨hf, hlo⟩, ⟨hc1, hc2⟩, hf1, hl1⟩ := K_room K (by omega)
  have hcs : 0 ≤ C.2.2.2.2.1.cells ∧ 0 ≤ C.2.2.2.2.1.slots := ⟨Nat.zero_le _, Nat.zero_le _⟩
  unfold m_X7_readPerson
  refine s_aload_n (j := 1) (pc2 := 1) X dX7_readPerson_0 rfl rfl ?_
  refine s_iconst (n := 0) (pc2 := 2) X dX7_readPerson_1 rfl ?_
  refine s_aload_n (j := 0) (pc2 := 3) X dX7_readPerson_2 rfl rfl ?_
  refine s_getI (pc2 := 6) X dX7_readPerson_3 rfl fl_RX7_9 rfl (fun v1 hv1 => ?_)
  refine s_iconst (n := 1) (pc2 := 7) X dX7_readPerson_6 rfl ?_
  refine s_isub (pc2 := 8) X dX7_readPerson_7 rfl ?_
  refine s_callVI (d2 := d - 1) (As := [vI 0, vI ((w32 (v1 - 1)))]) (st := []) (pc2 := 11) X dX7_readPerson_8 rfl ml_RX7_103 im_X6_number se_X6_number kX6 rfl (c_X6_number (d - 1) (by omega) C.1 C.2.2.1 l1 0 ((w32 (v1 - 1))) (inI_c 0 rfl) (w32_in _)) hy_X6_number rfl rfl hf hlo (st_room (Nat.le_of_ble_eq_true rfl)) hcs (fun v2 hv2 => ?_)
  refine s_istore_n (pc2 := 12) X dX7_readPerson_11 rfl (by decide) rfl rfl cat1_R hv2 (fun w3 hw3 => ?_)
  refine s_aload_n (j := 2) (pc2 := 13) X dX7_readPerson_12 rfl rfl ?_
  refine s_getI (pc2 := 16) X dX7_readPerson_13 rfl fl_RX7_80 rfl (fun v4 hv4 => ?_)
  refine s_ifne (tgt := 39) X dX7_readPerson_16 (by decide) rfl hv4 ?_ ?_
  · refine s_sub (lv2 := []) [] rfl ?_
    exact z_X7_readPerson_L39 d hd K X
  · refine s_aload_n (j := 1) (pc2 := 20) X dX7_readPerson_19 rfl rfl ?_
    refine s_getR (pc2 := 23) X dX7_readPerson_20 rfl fl_RX7_43 rfl (fun v5 => ?_)
    refine s_aload_n (j := 1) (pc2 := 24) X dX7_readPerson_23 rfl rfl ?_
    refine s_getI (pc2 := 27) X dX7_readPerson_24 rfl fl_RX7_40 rfl (fun v6 hv6 => ?_)
    refine s_iload_n (j := 0) (pc2 := 28) X dX7_readPerson_27 rfl rfl ?_
    refine s_iast (pc2 := 29) X dX7_readPerson_28 rfl hw3 ?_
    refine s_aload_n (j := 1) (pc2 := 30) X dX7_readPerson_29 rfl rfl ?_
    refine s_dup (pc2 := 31) X dX7_readPerson_30 rfl (vR_cat _ _) ?_
    refine s_getI (pc2 := 34) X dX7_readPerson_31 rfl fl_RX7_40 rfl (fun v7 hv7 => ?_)
    refine s_iconst (n := 1) (pc2 := 35) X dX7_readPerson_34 rfl ?_
    refine s_iadd (pc2 := 36) X dX7_readPerson_35 rfl ?_
    refine s_putI (pc2 := 39) X dX7_readPerson_36 rfl fl_RX7_40 (Or.inl rfl) rfl (w32_in _) ?_
    refine s_sub (lv2 := []) [] rfl ?_
    exact z_X7_readPerson_L39 d hd K X
theorem c_X7_readPerson (d : Nat) (hd : 3 ≤ d) (G : hG) (l : Launch) (l0 : Nat) (l1 : Nat) : hMet G l yX7_readPerson cX7_readPerson 3 none d 0 0 [vR G.1 l0, vR G.1 l1] (m_X7_readPerson l0 l1) := by
  refine hMet.of (lv := [(0, vR G.1 l0), (1, vR G.1 l1)]) (by decide +kernel) (by simp [lg_sl, vR_cat, vI_cat, vL_cat, vS_cat2, vT_cat2]) (by simp [lv_args, vR_cat, vI_cat, vL_cat, vS_cat2, vT_cat2]) (fun C K X => ?_)
  obtain ⟨rfl, rfl, K⟩ := K
  exact z_X7_readPerson d hd ⟨rfl, rfl, K⟩ X l0 l1
def m_X7_readCrossed_L58 : hM :=
  hret 0
def m_X7_readCrossed (l0 : Nat) (l1 : Nat) : hM :=
  hgI 7 l0 7 fun v1 =>
  hcallV 6 l1 (m_X6_number l1 0 ((w32 (v1 - 1)))) fun v2 =>
  hlet v2 fun (w3 : Int) =>
  hgR 7 l0 2 fun v4 =>
  hgI 1 v4 3 fun v5 =>
  hcallV 6 l1 (m_X6_number l1 0 ((w32 (v5 - 1)))) fun v6 =>
  hlet v6 fun (w7 : Int) =>
  hgI 7 l0 1 fun v8 =>
  hcallV 6 l1 (m_X6_number l1 0 v8) fun v9 =>
  hlet v9 fun (w10 : Int) =>
  hgI 6 l1 4 fun v11 =>
  hif (v11 ≠ 0) (
m_X7_readCrossed_L58) (
hgR 7 l0 9 fun v12 =>
  hsI 20 v12 ((w32 (((w32 (w3 * 9))) + w7))) w10 <|
  m_X7_readCrossed_L58)
set_option maxRecDepth 4000 in
theorem z_X7_readCrossed_L58 (d : Nat) (hd : 3 ≤ d) {C : hCx} (K : hCtx C.1 C.2.2.1 d 0 0 "readCrossed" C) (X : hOK C cX7_readCrossed RX7 5 none) : hSim C none 0 0 5 58 [] [] 0 0 (m_X7_readCrossed_L58) := by
  obtain ⟨⟨hf, hlo⟩, ⟨hc1, hc2⟩, hf1, hl1⟩ := K_room K (by omega)
  have hcs : 0 ≤ C.2.2.2.2.1.cells ∧ 0 ≤ C.2.2.2.2.1.slots := ⟨Nat.zero_le _, Nat.zero_le _⟩
  unfold m_X7_readCrossed_L58
  exact s_ret X dX7_readCrossed_58
set_option maxRecDepth 4000 in
set_option maxHeartbeats 20000000 in
theorem z_X7_readCrossed (d : Nat) (hd : 3 ≤ d) {C : hCx} (K : hCtx C.1 C.2.2.1 d 0 0 "readCrossed" C) (X : hOK C cX7_readCrossed RX7 5 none) (l0 : Nat) (l1 : Nat) : hSim C none 0 0 5 0 [(0, vR C.1.1 l0), (1, vR C.1.1 l1)] [] 0 0 (m_X7_readCrossed l0 l1) := by
  obtain ⟨⟨hf, hlo⟩, ⟨hc1, hc2⟩, hf1, hl1⟩ := K_room K (by omega)
  have hcs : 0 ≤ C.2.2.2.2.1.cells ∧ 0 ≤ C.2.2.2.2.1.slots := ⟨Nat.zero_le _, Nat.zero_le _⟩
  unfold m_X7_readCrossed
  refine s_aload_n (j := 1) (pc2 := 1) X dX7_readCrossed_0 rfl rfl ?_
  refine s_iconst (n := 0) (pc2 := 2) X dX7_readCrossed_1 rfl ?_
  refine s_aload_n (j := 0) (pc2 := 3) X dX7_readCrossed_2 rfl rfl ?_
  refine s_getI (pc2 := 6) X dX7_readCrossed_3 rfl fl_RX7_40 rfl (fun v1 hv1 => ?_)
  refine s_iconst (n := 1) (pc2 := 7) X dX7_readCrossed_6 rfl ?_
  refine s_isub (pc2 := 8) X dX7_readCrossed_7 rfl ?_
  refine s_callVI (d2 := d - 1) (As := [vI 0, vI ((w32 (v1 - 1)))]) (st := []) (pc2 := 11) X dX7_readCrossed_8 rfl ml_RX7_103 im_X6_number se_X6_number kX6 rfl (c_X6_number (d - 1) (by omega) C.1 C.2.2.1 l1 0 ((w32 (v1 - 1))) (inI_c 0 rfl) (w32_in _)) hy_X6_number rfl rfl hf hlo (st_room (Nat.le_of_ble_eq_true rfl)) hcs (fun v2 hv2 => ?_)
  refine s_istore_n (pc2 := 12) X dX7_readCrossed_11 rfl (by decide) rfl rfl cat1_R hv2 (fun w3 hw3 => ?_)
  refine s_aload_n (j := 2) (pc2 := 13) X dX7_readCrossed_12 rfl rfl ?_
  refine s_iconst (n := 0) (pc2 := 14) X dX7_readCrossed_13 rfl ?_
  refine s_aload_n (j := 1) (pc2 := 15) X dX7_readCrossed_14 rfl rfl ?_
  refine s_getR (pc2 := 18) X dX7_readCrossed_15 rfl fl_RX7_23 rfl (fun v4 => ?_)
  refine s_getI (pc2 := 21) X dX7_readCrossed_18 rfl fl_RX7_129 rfl (fun v5 hv5 => ?_)
  refine s_iconst (n := 1) (pc2 := 22) X dX7_readCrossed_21 rfl ?_
  refine s_isub (pc2 := 23) X dX7_readCrossed_22 rfl ?_
  refine s_callVI (d2 := d - 1) (As := [vI 0, vI ((w32 (v5 - 1)))]) (st := []) (pc2 := 26) X dX7_readCrossed_23 rfl ml_RX7_103 im_X6_number se_X6_number kX6 rfl (c_X6_number (d - 1) (by omega) C.1 C.2.2.1 l1 0 ((w32 (v5 - 1))) (inI_c 0 rfl) (w32_in _)) hy_X6_number rfl rfl hf hlo (st_room (Nat.le_of_ble_eq_true rfl)) hcs (fun v6 hv6 => ?_)
  refine s_istore_n (pc2 := 27) X dX7_readCrossed_26 rfl (by decide) rfl rfl cat1_I hv6 (fun w7 hw7 => ?_)
  refine s_aload_n (j := 3) (pc2 := 28) X dX7_readCrossed_27 rfl rfl ?_
  refine s_iconst (n := 0) (pc2 := 29) X dX7_readCrossed_28 rfl ?_
  refine s_aload_n (j := 2) (pc2 := 30) X dX7_readCrossed_29 rfl rfl ?_
  refine s_getI (pc2 := 33) X dX7_readCrossed_30 rfl fl_RX7_15 rfl (fun v8 hv8 => ?_)
  refine s_callVI (d2 := d - 1) (As := [vI 0, vI v8]) (st := []) (pc2 := 36) X dX7_readCrossed_33 rfl ml_RX7_103 im_X6_number se_X6_number kX6 rfl (c_X6_number (d - 1) (by omega) C.1 C.2.2.1 l1 0 v8 (inI_c 0 rfl) hv8) hy_X6_number rfl rfl hf hlo (st_room (Nat.le_of_ble_eq_true rfl)) hcs (fun v9 hv9 => ?_)
  refine s_istore (pc2 := 38) X dX7_readCrossed_36 rfl (by decide) rfl rfl cat1_I hv9 (fun w10 hw10 => ?_)
  refine s_aload_n (j := 4) (pc2 := 39) X dX7_readCrossed_38 rfl rfl ?_
  refine s_getI (pc2 := 42) X dX7_readCrossed_39 rfl fl_RX7_80 rfl (fun v11 hv11 => ?_)
  refine s_ifne (tgt := 58) X dX7_readCrossed_42 (by decide) rfl hv11 ?_ ?_
  · refine s_sub (lv2 := []) [] rfl ?_
    exact z_X7_readCrossed_L58 d hd K X
  · refine s_aload_n (j := 3) (pc2 := 46) X dX7_readCrossed_45 rfl rfl ?_
    refine s_getR (pc2 := 49) X dX7_readCrossed_46 rfl fl_RX7_46 rfl (fun v12 => ?_)
    refine s_iload_n (j := 2) (pc2 := 50) X dX7_readCrossed_49 rfl rfl ?_
    refine s_bipush (n := 9) (pc2 := 52) X dX7_readCrossed_50 rfl rfl ?_
    refine s_imul (pc2 := 53) X dX7_readCrossed_52 rfl ?_
    refine s_iload_n (j := 1) (pc2 := 54) X dX7_readCrossed_53 rfl rfl ?_
    refine s_iadd (pc2 := 55) X dX7_readCrossed_54 rfl ?_
    refine s_iload (j := 0) (pc2 := 57) X dX7_readCrossed_55 rfl rfl ?_
    refine s_iast (pc2 := 58) X dX7_readCrossed_57 rfl hw10 ?_
    refine s_sub (lv2 := []) [] rfl ?_
    exact z_X7_readCrossed_L58 d hd K X
theorem c_X7_readCrossed (d : Nat) (hd : 3 ≤ d) (G : hG) (l : Launch) (l0 : Nat) (l1 : Nat) : hMet G l yX7_readCrossed cX7_readCrossed 5 none d 0 0 [vR G.1 l0, vR G.1 l1] (m_X7_readCrossed l0 l1) := by
  refine hMet.of (lv := [(0, vR G.1 l0), (1, vR G.1 l1)]) (by decide +kernel) (by simp [lg_sl, vR_cat, vI_cat, vL_cat, vS_cat2, vT_cat2]) (by simp [lv_args, vR_cat, vI_cat, vL_cat, vS_cat2, vT_cat2]) (fun C K X => ?_)
  obtain ⟨rfl, rfl, K⟩ := K
  exact z_X7_readCrossed d hd ⟨rfl, rfl, K⟩ X l0 l1
def m_X7_readWant_L101 : hM :=
  hret 0
def m_X7_readWant (l0 : Nat) (l1 : Nat) : hM :=
  hgI 7 l0 7 fun v1 =>
  hcallV 6 l1 (m_X6_number l1 0 ((w32 (v1 - 1)))) fun v2 =>
  hlet v2 fun (w3 : Int) =>
  hgI 7 l0 0 fun v4 =>
  hcallV 6 l1 (m_X6_number l1 0 ((w32 (v4 - 1)))) fun v5 =>
  hlet v5 fun (w6 : Int) =>
  hcallV 6 l1 (m_X6_number l1 0 99) fun v7 =>
  hlet v7 fun (w8 : Int) =>
  hcallV 6 l1 (m_X6_number l1 1 50) fun v9 =>
  hlet v9 fun (w10 : Int) =>
  hgI 6 l1 4 fun v11 =>
  hif (v11 ≠ 0) (
m_X7_readWant_L101) (
hgR 7 l0 11 fun v12 =>
  hgI 7 l0 10 fun v13 =>
  hsI 20 v12 v13 w3 <|
  hgR 7 l0 12 fun v14 =>
  hgI 7 l0 10 fun v15 =>
  hsI 20 v14 v15 w6 <|
  hgR 7 l0 13 fun v16 =>
  hgI 7 l0 10 fun v17 =>
  hsI 20 v16 v17 w8 <|
  hgR 7 l0 14 fun v18 =>
  hgI 7 l0 10 fun v19 =>
  hsI 20 v18 v19 w10 <|
  hgI 7 l0 10 fun v20 =>
  hpI 7 l0 10 ((w32 (v20 + 1))) <|
  m_X7_readWant_L101)
set_option maxRecDepth 4000 in
theorem z_X7_readWant_L101 (d : Nat) (hd : 3 ≤ d) {C : hCx} (K : hCtx C.1 C.2.2.1 d 0 0 "readWant" C) (X : hOK C cX7_readWant RX7 6 none) : hSim C none 0 0 6 101 [] [] 0 0 (m_X7_readWant_L101) := by
  obtain ⟨⟨hf, hlo⟩, ⟨hc1, hc2⟩, hf1, hl1⟩ := K_room K (by omega)
  have hcs : 0 ≤ C.2.2.2.2.1.cells ∧ 0 ≤ C.2.2.2.2.1.slots := ⟨Nat.zero_le _, Nat.zero_le _⟩
  unfold m_X7_readWant_L101
  exact s_ret X dX7_readWant_101
set_option maxRecDepth 4000 in
set_option maxHeartbeats 20000000 in
theorem z_X7_readWant (d : Nat) (hd : 3 ≤ d) {C : hCx} (K : hCtx C.1 C.2.2.1 d 0 0 "readWant" C) (X : hOK C cX7_readWant RX7 6 none) (l0 : Nat) (l1 : Nat) : hSim C none 0 0 6 0 [(0, vR C.1.1 l0), (1, vR C.1.1 l1)] [] 0 0 (m_X7_readWant l0 l1) := by
  obtain ⟨⟨hf, hlo⟩, ⟨hc1, hc2⟩, hf1, hl1⟩ := K_room K (by omega)
  have hcs : 0 ≤ C.2.2.2.2.1.cells ∧ 0 ≤ C.2.2.2.2.1.slots := ⟨Nat.zero_le _, Nat.zero_le _⟩
  unfold m_X7_readWant
  refine s_aload_n (j := 1) (pc2 := 1) X dX7_readWant_0 rfl rfl ?_
  refine s_iconst (n := 0) (pc2 := 2) X dX7_readWant_1 rfl ?_
  refine s_aload_n (j := 0) (pc2 := 3) X dX7_readWant_2 rfl rfl ?_
  refine s_getI (pc2 := 6) X dX7_readWant_3 rfl fl_RX7_40 rfl (fun v1 hv1 => ?_)
  refine s_iconst (n := 1) (pc2 := 7) X dX7_readWant_6 rfl ?_
  refine s_isub (pc2 := 8) X dX7_readWant_7 rfl ?_
  refine s_callVI (d2 := d - 1) (As := [vI 0, vI ((w32 (v1 - 1)))]) (st := []) (pc2 := 11) X dX7_readWant_8 rfl ml_RX7_103 im_X6_number se_X6_number kX6 rfl (c_X6_number (d - 1) (by omega) C.1 C.2.2.1 l1 0 ((w32 (v1 - 1))) (inI_c 0 rfl) (w32_in _)) hy_X6_number rfl rfl hf hlo (st_room (Nat.le_of_ble_eq_true rfl)) hcs (fun v2 hv2 => ?_)
  refine s_istore_n (pc2 := 12) X dX7_readWant_11 rfl (by decide) rfl rfl cat1_R hv2 (fun w3 hw3 => ?_)
  refine s_aload_n (j := 2) (pc2 := 13) X dX7_readWant_12 rfl rfl ?_
  refine s_iconst (n := 0) (pc2 := 14) X dX7_readWant_13 rfl ?_
  refine s_aload_n (j := 1) (pc2 := 15) X dX7_readWant_14 rfl rfl ?_
  refine s_getI (pc2 := 18) X dX7_readWant_15 rfl fl_RX7_9 rfl (fun v4 hv4 => ?_)
  refine s_iconst (n := 1) (pc2 := 19) X dX7_readWant_18 rfl ?_
  refine s_isub (pc2 := 20) X dX7_readWant_19 rfl ?_
  refine s_callVI (d2 := d - 1) (As := [vI 0, vI ((w32 (v4 - 1)))]) (st := []) (pc2 := 23) X dX7_readWant_20 rfl ml_RX7_103 im_X6_number se_X6_number kX6 rfl (c_X6_number (d - 1) (by omega) C.1 C.2.2.1 l1 0 ((w32 (v4 - 1))) (inI_c 0 rfl) (w32_in _)) hy_X6_number rfl rfl hf hlo (st_room (Nat.le_of_ble_eq_true rfl)) hcs (fun v5 hv5 => ?_)
  refine s_istore_n (pc2 := 24) X dX7_readWant_23 rfl (by decide) rfl rfl cat1_I hv5 (fun w6 hw6 => ?_)
  refine s_aload_n (j := 3) (pc2 := 25) X dX7_readWant_24 rfl rfl ?_
  refine s_iconst (n := 0) (pc2 := 26) X dX7_readWant_25 rfl ?_
  refine s_bipush (n := 99) (pc2 := 28) X dX7_readWant_26 rfl rfl ?_
  refine s_callVI (d2 := d - 1) (As := [vI 0, vI 99]) (st := []) (pc2 := 31) X dX7_readWant_28 rfl ml_RX7_103 im_X6_number se_X6_number kX6 rfl (c_X6_number (d - 1) (by omega) C.1 C.2.2.1 l1 0 99 (inI_c 0 rfl) (inI_c 99 rfl)) hy_X6_number rfl rfl hf hlo (st_room (Nat.le_of_ble_eq_true rfl)) hcs (fun v7 hv7 => ?_)
  refine s_istore (pc2 := 33) X dX7_readWant_31 rfl (by decide) rfl rfl cat1_I hv7 (fun w8 hw8 => ?_)
  refine s_aload_n (j := 4) (pc2 := 34) X dX7_readWant_33 rfl rfl ?_
  refine s_iconst (n := 1) (pc2 := 35) X dX7_readWant_34 rfl ?_
  refine s_bipush (n := 50) (pc2 := 37) X dX7_readWant_35 rfl rfl ?_
  refine s_callVI (d2 := d - 1) (As := [vI 1, vI 50]) (st := []) (pc2 := 40) X dX7_readWant_37 rfl ml_RX7_103 im_X6_number se_X6_number kX6 rfl (c_X6_number (d - 1) (by omega) C.1 C.2.2.1 l1 1 50 (inI_c 1 rfl) (inI_c 50 rfl)) hy_X6_number rfl rfl hf hlo (st_room (Nat.le_of_ble_eq_true rfl)) hcs (fun v9 hv9 => ?_)
  refine s_istore (pc2 := 42) X dX7_readWant_40 rfl (by decide) rfl rfl cat1_I hv9 (fun w10 hw10 => ?_)
  refine s_aload_n (j := 5) (pc2 := 43) X dX7_readWant_42 rfl rfl ?_
  refine s_getI (pc2 := 46) X dX7_readWant_43 rfl fl_RX7_80 rfl (fun v11 hv11 => ?_)
  refine s_ifne (tgt := 101) X dX7_readWant_46 (by decide) rfl hv11 ?_ ?_
  · refine s_sub (lv2 := []) [] rfl ?_
    exact z_X7_readWant_L101 d hd K X
  · refine s_aload_n (j := 4) (pc2 := 50) X dX7_readWant_49 rfl rfl ?_
    refine s_getR (pc2 := 53) X dX7_readWant_50 rfl fl_RX7_52 rfl (fun v12 => ?_)
    refine s_aload_n (j := 4) (pc2 := 54) X dX7_readWant_53 rfl rfl ?_
    refine s_getI (pc2 := 57) X dX7_readWant_54 rfl fl_RX7_49 rfl (fun v13 hv13 => ?_)
    refine s_iload_n (j := 3) (pc2 := 58) X dX7_readWant_57 rfl rfl ?_
    refine s_iast (pc2 := 59) X dX7_readWant_58 rfl hw3 ?_
    refine s_aload_n (j := 4) (pc2 := 60) X dX7_readWant_59 rfl rfl ?_
    refine s_getR (pc2 := 63) X dX7_readWant_60 rfl fl_RX7_55 rfl (fun v14 => ?_)
    refine s_aload_n (j := 4) (pc2 := 64) X dX7_readWant_63 rfl rfl ?_
    refine s_getI (pc2 := 67) X dX7_readWant_64 rfl fl_RX7_49 rfl (fun v15 hv15 => ?_)
    refine s_iload_n (j := 2) (pc2 := 68) X dX7_readWant_67 rfl rfl ?_
    refine s_iast (pc2 := 69) X dX7_readWant_68 rfl hw6 ?_
    refine s_aload_n (j := 4) (pc2 := 70) X dX7_readWant_69 rfl rfl ?_
    refine s_getR (pc2 := 73) X dX7_readWant_70 rfl fl_RX7_58 rfl (fun v16 => ?_)
    refine s_aload_n (j := 4) (pc2 := 74) X dX7_readWant_73 rfl rfl ?_
    refine s_getI (pc2 := 77) X dX7_readWant_74 rfl fl_RX7_49 rfl (fun v17 hv17 => ?_)
    refine s_iload (j := 1) (pc2 := 79) X dX7_readWant_77 rfl rfl ?_
    refine s_iast (pc2 := 80) X dX7_readWant_79 rfl hw8 ?_
    refine s_aload_n (j := 4) (pc2 := 81) X dX7_readWant_80 rfl rfl ?_
    refine s_getR (pc2 := 84) X dX7_readWant_81 rfl fl_RX7_61 rfl (fun v18 => ?_)
    refine s_aload_n (j := 4) (pc2 := 85) X dX7_readWant_84 rfl rfl ?_
    refine s_getI (pc2 := 88) X dX7_readWant_85 rfl fl_RX7_49 rfl (fun v19 hv19 => ?_)
    refine s_iload (j := 0) (pc2 := 90) X dX7_readWant_88 rfl rfl ?_
    refine s_iast (pc2 := 91) X dX7_readWant_90 rfl hw10 ?_
    refine s_aload_n (j := 4) (pc2 := 92) X dX7_readWant_91 rfl rfl ?_
    refine s_dup (pc2 := 93) X dX7_readWant_92 rfl (vR_cat _ _) ?_
    refine s_getI (pc2 := 96) X dX7_readWant_93 rfl fl_RX7_49 rfl (fun v20 hv20 => ?_)
    refine s_iconst (n := 1) (pc2 := 97) X dX7_readWant_96 rfl ?_
    refine s_iadd (pc2 := 98) X dX7_readWant_97 rfl ?_
    refine s_putI (pc2 := 101) X dX7_readWant_98 rfl fl_RX7_49 (Or.inl rfl) rfl (w32_in _) ?_
    refine s_sub (lv2 := []) [] rfl ?_
    exact z_X7_readWant_L101 d hd K X
theorem c_X7_readWant (d : Nat) (hd : 3 ≤ d) (G : hG) (l : Launch) (l0 : Nat) (l1 : Nat) : hMet G l yX7_readWant cX7_readWant 6 none d 0 0 [vR G.1 l0, vR G.1 l1] (m_X7_readWant l0 l1) := by
  refine hMet.of (lv := [(0, vR G.1 l0), (1, vR G.1 l1)]) (by decide +kernel) (by simp [lg_sl, vR_cat, vI_cat, vL_cat, vS_cat2, vT_cat2]) (by simp [lv_args, vR_cat, vI_cat, vL_cat, vS_cat2, vT_cat2]) (fun C K X => ?_)
  obtain ⟨rfl, rfl, K⟩ := K
  exact z_X7_readWant d hd ⟨rfl, rfl, K⟩ X l0 l1
def m_X7_readClause_L50 (l1 : Nat) : hM :=
  hgI 6 l1 3 fun v1 =>
  hcallV 6 l1 (m_X6_fail l1 v1 4) fun _ =>
  hret 0
def m_X7_readClause_L177 : hM :=
  hret 0
def m_X7_readClause_L39 (l0 : Nat) (l1 : Nat) (l3 : Int) (s0 : Int) (s1 : Int) : hM :=
  hif (s0 ≠ s1) (
m_X7_readClause_L50 l1) (
hcallV 7 l0 (m_X7_isFull l0 l3) fun v1 =>
  hif (v1 = 0) (
hif (l3 = 0) (
hcallV 6 l1 (m_X6_number l1 2 8) fun v2 =>
  hpI 7 l0 0 v2 <|
  hcallV 6 l1 (m_X6_number l1 1 5) fun v3 =>
  hpI 7 l0 1 v3 <|
  m_X7_readClause_L177) <|
  hif (l3 = 1) (
hgR 7 l0 2 fun v4 =>
  hcallV 7 l0 (m_X7_readLink l0 l1 v4) fun _ =>
  m_X7_readClause_L177) <|
  hif (l3 = 2) (
hgR 7 l0 3 fun v5 =>
  hcallV 7 l0 (m_X7_readLink l0 l1 v5) fun _ =>
  m_X7_readClause_L177) <|
  hif (l3 = 3) (
hcallV 7 l0 (m_X7_readFrost l0 l1) fun _ =>
  m_X7_readClause_L177) <|
  hif (l3 = 4) (
hcallV 7 l0 (m_X7_readPerson l0 l1) fun _ =>
  m_X7_readClause_L177) <|
  hif (l3 = 5) (
hcallV 7 l0 (m_X7_readCrossed l0 l1) fun _ =>
  m_X7_readClause_L177) <|
  hcallV 7 l0 (m_X7_readWant l0 l1) fun _ =>
  m_X7_readClause_L177) (
m_X7_readClause_L50 l1))
def m_X7_readClause_L30 (l0 : Nat) (l1 : Nat) (l2 : Int) (l3 : Int) (s0 : Int) : hM :=
  hif (l2 ≠ 0) (
m_X7_readClause_L39 l0 l1 l3 s0 0) (
m_X7_readClause_L39 l0 l1 l3 s0 1)
def m_X7_readClause (l0 : Nat) (l1 : Nat) (l2 : Int) : hM :=
  hcallV 6 l1 (m_X6_word l1 0) fun v1 =>
  hlet v1 fun (w2 : Int) =>
  hgI 6 l1 4 fun v3 =>
  hif (v3 = 0) (
hif (l2 ≥ 40) (
m_X7_readClause_L50 l1) (
hif (w2 ≠ 0) (
m_X7_readClause_L30 l0 l1 l2 w2 0) (
m_X7_readClause_L30 l0 l1 l2 w2 1))) (
hret 0)
set_option maxRecDepth 4000 in
theorem z_X7_readClause_L50 (d : Nat) (hd : 7 ≤ d) {C : hCx} (K : hCtx C.1 C.2.2.1 d 0 0 "readClause" C) (X : hOK C cX7_readClause RX7 4 none) (l1 : Nat) : hSim C none 0 0 4 50 [(1, vR C.1.1 l1)] [] 0 0 (m_X7_readClause_L50 l1) := by
  obtain ⟨⟨hf, hlo⟩, ⟨hc1, hc2⟩, hf1, hl1⟩ := K_room K (by omega)
  have hcs : 0 ≤ C.2.2.2.2.1.cells ∧ 0 ≤ C.2.2.2.2.1.slots := ⟨Nat.zero_le _, Nat.zero_le _⟩
  unfold m_X7_readClause_L50
  refine s_aload_n (j := 0) (pc2 := 51) X dX7_readClause_50 rfl rfl ?_
  refine s_aload_n (j := 0) (pc2 := 52) X dX7_readClause_51 rfl rfl ?_
  refine s_getI (pc2 := 55) X dX7_readClause_52 rfl fl_RX7_96 rfl (fun v1 hv1 => ?_)
  refine s_iconst (n := 4) (pc2 := 56) X dX7_readClause_55 rfl ?_
  refine s_callVV (d2 := d - 1) (As := [vI v1, vI 4]) (st := []) (pc2 := 59) X dX7_readClause_56 rfl ml_RX7_99 im_X6_fail se_X6_fail kX6 rfl (c_X6_fail (d - 1) (by omega) C.1 C.2.2.1 l1 v1 4 hv1 (inI_c 4 rfl)) hy_X6_fail rfl rfl hf hlo (st_room (Nat.le_of_ble_eq_true rfl)) hcs (fun _ => ?_)
  exact s_ret X dX7_readClause_59
set_option maxRecDepth 4000 in
theorem z_X7_readClause_L177 (d : Nat) (hd : 7 ≤ d) {C : hCx} (K : hCtx C.1 C.2.2.1 d 0 0 "readClause" C) (X : hOK C cX7_readClause RX7 4 none) : hSim C none 0 0 4 177 [] [] 0 0 (m_X7_readClause_L177) := by
  obtain ⟨⟨hf, hlo⟩, ⟨hc1, hc2⟩, hf1, hl1⟩ := K_room K (by omega)
  have hcs : 0 ≤ C.2.2.2.2.1.cells ∧ 0 ≤ C.2.2.2.2.1.slots := ⟨Nat.zero_le _, Nat.zero_le _⟩
  unfold m_X7_readClause_L177
  exact s_ret X dX7_readClause_177
set_option maxRecDepth 4000 in
theorem z_X7_readClause_L39 (d : Nat) (hd : 7 ≤ d) {C : hCx} (K : hCtx C.1 C.2.2.1 d 0 0 "readClause" C) (X : hOK C cX7_readClause RX7 4 none) (l0 : Nat) (l1 : Nat) (l3 : Int) (s0 : Int) (s1 : Int) (h3 : inI l3) (g0 : inI s0) (g1 : inI s1) : hSim C none 0 0 4 39 [(0, vR C.1.1 l0), (1, vR C.1.1 l1), (3, vI l3)] [vI s1, vI s0] 0 0 (m_X7_readClause_L39 l0 l1 l3 s0 s1) := by
  obtain ⟨⟨hf, hlo⟩, ⟨hc1, hc2⟩, hf1, hl1⟩ := K_room K (by omega)
  have hcs : 0 ≤ C.2.2.2.2.1.cells ∧ 0 ≤ C.2.2.2.2.1.slots := ⟨Nat.zero_le _, Nat.zero_le _⟩
  unfold m_X7_readClause_L39
  refine s_icne (tgt := 50) X dX7_readClause_39 (by decide) rfl g0 g1 ?_ ?_
  · refine s_sub (lv2 := [(1, vR C.1.1 l1)]) [1] rfl ?_
    exact z_X7_readClause_L50 d hd K X l1
  · refine s_aload_n (j := 0) (pc2 := 43) X dX7_readClause_42 rfl rfl ?_
    refine s_iload_n (j := 2) (pc2 := 44) X dX7_readClause_43 rfl rfl ?_
    refine s_callVZ (d2 := d - 1) (As := [vI l3]) (st := []) (pc2 := 47) X dX7_readClause_44 rfl ml_RX7_92 im_X7_isFull se_X7_isFull kX7 rfl (c_X7_isFull (d - 1) (by omega) C.1 C.2.2.1 l0 l3 h3) hy_X7_isFull rfl rfl hf hlo (st_room (Nat.le_of_ble_eq_true rfl)) hcs (fun v1 hv1 => ?_)
    refine s_ifeq (tgt := 60) X dX7_readClause_47 (by decide) rfl hv1 ?_ ?_
    · refine s_iload_n (j := 2) (pc2 := 61) X dX7_readClause_60 rfl rfl ?_
      refine s_split (fun e61_0 => ?_) (fun e61_0 => ?_)
      · refine s_tsin (tgt := 100) 0 X dX7_readClause_61 e61_0 (inI_c 0 rfl) (by decide) (by decide) rfl (by decide) ?_
        refine s_aload_n (j := 0) (pc2 := 101) X dX7_readClause_100 rfl rfl ?_
        refine s_aload_n (j := 1) (pc2 := 102) X dX7_readClause_101 rfl rfl ?_
        refine s_iconst (n := 2) (pc2 := 103) X dX7_readClause_102 rfl ?_
        refine s_bipush (n := 8) (pc2 := 105) X dX7_readClause_103 rfl rfl ?_
        refine s_callVI (d2 := d - 1) (As := [vI 2, vI 8]) (st := [vR C.1.1 l0]) (pc2 := 108) X dX7_readClause_105 rfl ml_RX7_103 im_X6_number se_X6_number kX6 rfl (c_X6_number (d - 1) (by omega) C.1 C.2.2.1 l1 2 8 (inI_c 2 rfl) (inI_c 8 rfl)) hy_X6_number rfl rfl hf hlo (st_room (Nat.le_of_ble_eq_true rfl)) hcs (fun v2 hv2 => ?_)
        refine s_putI (pc2 := 111) X dX7_readClause_108 rfl fl_RX7_9 (Or.inl rfl) rfl hv2 ?_
        refine s_aload_n (j := 0) (pc2 := 112) X dX7_readClause_111 rfl rfl ?_
        refine s_aload_n (j := 1) (pc2 := 113) X dX7_readClause_112 rfl rfl ?_
        refine s_iconst (n := 1) (pc2 := 114) X dX7_readClause_113 rfl ?_
        refine s_iconst (n := 5) (pc2 := 115) X dX7_readClause_114 rfl ?_
        refine s_callVI (d2 := d - 1) (As := [vI 1, vI 5]) (st := [vR C.1.1 l0]) (pc2 := 118) X dX7_readClause_115 rfl ml_RX7_103 im_X6_number se_X6_number kX6 rfl (c_X6_number (d - 1) (by omega) C.1 C.2.2.1 l1 1 5 (inI_c 1 rfl) (inI_c 5 rfl)) hy_X6_number rfl rfl hf hlo (st_room (Nat.le_of_ble_eq_true rfl)) hcs (fun v3 hv3 => ?_)
        refine s_putI (pc2 := 121) X dX7_readClause_118 rfl fl_RX7_15 (Or.inl rfl) rfl hv3 ?_
        refine s_goto (pc2 := 177) X dX7_readClause_121 (by decide) ?_
        refine s_sub (lv2 := []) [] rfl ?_
        exact z_X7_readClause_L177 d hd K X
      refine s_split (fun e61_1 => ?_) (fun e61_1 => ?_)
      · refine s_tsin (tgt := 124) 1 X dX7_readClause_61 e61_1 (inI_c 1 rfl) (by decide) (by decide) rfl (by decide) ?_
        refine s_aload_n (j := 0) (pc2 := 125) X dX7_readClause_124 rfl rfl ?_
        refine s_aload_n (j := 1) (pc2 := 126) X dX7_readClause_125 rfl rfl ?_
        refine s_aload_n (j := 0) (pc2 := 127) X dX7_readClause_126 rfl rfl ?_
        refine s_getR (pc2 := 130) X dX7_readClause_127 rfl fl_RX7_23 rfl (fun v4 => ?_)
        refine s_callVV (d2 := d - 1) (As := [vR C.1.1 l1, vR C.1.1 v4]) (st := []) (pc2 := 133) X dX7_readClause_130 rfl ml_RX7_107 im_X7_readLink se_X7_readLink kX7 rfl (c_X7_readLink (d - 1) (by omega) C.1 C.2.2.1 l0 l1 v4) hy_X7_readLink rfl rfl hf hlo (st_room (Nat.le_of_ble_eq_true rfl)) hcs (fun _ => ?_)
        refine s_goto (pc2 := 177) X dX7_readClause_133 (by decide) ?_
        refine s_sub (lv2 := []) [] rfl ?_
        exact z_X7_readClause_L177 d hd K X
      refine s_split (fun e61_2 => ?_) (fun e61_2 => ?_)
      · refine s_tsin (tgt := 136) 2 X dX7_readClause_61 e61_2 (inI_c 2 rfl) (by decide) (by decide) rfl (by decide) ?_
        refine s_aload_n (j := 0) (pc2 := 137) X dX7_readClause_136 rfl rfl ?_
        refine s_aload_n (j := 1) (pc2 := 138) X dX7_readClause_137 rfl rfl ?_
        refine s_aload_n (j := 0) (pc2 := 139) X dX7_readClause_138 rfl rfl ?_
        refine s_getR (pc2 := 142) X dX7_readClause_139 rfl fl_RX7_27 rfl (fun v5 => ?_)
        refine s_callVV (d2 := d - 1) (As := [vR C.1.1 l1, vR C.1.1 v5]) (st := []) (pc2 := 145) X dX7_readClause_142 rfl ml_RX7_107 im_X7_readLink se_X7_readLink kX7 rfl (c_X7_readLink (d - 1) (by omega) C.1 C.2.2.1 l0 l1 v5) hy_X7_readLink rfl rfl hf hlo (st_room (Nat.le_of_ble_eq_true rfl)) hcs (fun _ => ?_)
        refine s_goto (pc2 := 177) X dX7_readClause_145 (by decide) ?_
        refine s_sub (lv2 := []) [] rfl ?_
        exact z_X7_readClause_L177 d hd K X
      refine s_split (fun e61_3 => ?_) (fun e61_3 => ?_)
      · refine s_tsin (tgt := 148) 3 X dX7_readClause_61 e61_3 (inI_c 3 rfl) (by decide) (by decide) rfl (by decide) ?_
        refine s_aload_n (j := 0) (pc2 := 149) X dX7_readClause_148 rfl rfl ?_
        refine s_aload_n (j := 1) (pc2 := 150) X dX7_readClause_149 rfl rfl ?_
        refine s_callVV (d2 := d - 1) (As := [vR C.1.1 l1]) (st := []) (pc2 := 153) X dX7_readClause_150 rfl ml_RX7_111 im_X7_readFrost se_X7_readFrost kX7 rfl (c_X7_readFrost (d - 1) (by omega) C.1 C.2.2.1 l0 l1) hy_X7_readFrost rfl rfl hf hlo (st_room (Nat.le_of_ble_eq_true rfl)) hcs (fun _ => ?_)
        refine s_goto (pc2 := 177) X dX7_readClause_153 (by decide) ?_
        refine s_sub (lv2 := []) [] rfl ?_
        exact z_X7_readClause_L177 d hd K X
      refine s_split (fun e61_4 => ?_) (fun e61_4 => ?_)
      · refine s_tsin (tgt := 156) 4 X dX7_readClause_61 e61_4 (inI_c 4 rfl) (by decide) (by decide) rfl (by decide) ?_
        refine s_aload_n (j := 0) (pc2 := 157) X dX7_readClause_156 rfl rfl ?_
        refine s_aload_n (j := 1) (pc2 := 158) X dX7_readClause_157 rfl rfl ?_
        refine s_callVV (d2 := d - 1) (As := [vR C.1.1 l1]) (st := []) (pc2 := 161) X dX7_readClause_158 rfl ml_RX7_115 im_X7_readPerson se_X7_readPerson kX7 rfl (c_X7_readPerson (d - 1) (by omega) C.1 C.2.2.1 l0 l1) hy_X7_readPerson rfl rfl hf hlo (st_room (Nat.le_of_ble_eq_true rfl)) hcs (fun _ => ?_)
        refine s_goto (pc2 := 177) X dX7_readClause_161 (by decide) ?_
        refine s_sub (lv2 := []) [] rfl ?_
        exact z_X7_readClause_L177 d hd K X
      refine s_split (fun e61_5 => ?_) (fun e61_5 => ?_)
      · refine s_tsin (tgt := 164) 5 X dX7_readClause_61 e61_5 (inI_c 5 rfl) (by decide) (by decide) rfl (by decide) ?_
        refine s_aload_n (j := 0) (pc2 := 165) X dX7_readClause_164 rfl rfl ?_
        refine s_aload_n (j := 1) (pc2 := 166) X dX7_readClause_165 rfl rfl ?_
        refine s_callVV (d2 := d - 1) (As := [vR C.1.1 l1]) (st := []) (pc2 := 169) X dX7_readClause_166 rfl ml_RX7_118 im_X7_readCrossed se_X7_readCrossed kX7 rfl (c_X7_readCrossed (d - 1) (by omega) C.1 C.2.2.1 l0 l1) hy_X7_readCrossed rfl rfl hf hlo (st_room (Nat.le_of_ble_eq_true rfl)) hcs (fun _ => ?_)
        refine s_goto (pc2 := 177) X dX7_readClause_169 (by decide) ?_
        refine s_sub (lv2 := []) [] rfl ?_
        exact z_X7_readClause_L177 d hd K X
      refine s_tsout (tgt := 172) X dX7_readClause_61 h3 (by omega) (by decide) ?_
      refine s_aload_n (j := 0) (pc2 := 173) X dX7_readClause_172 rfl rfl ?_
      refine s_aload_n (j := 1) (pc2 := 174) X dX7_readClause_173 rfl rfl ?_
      refine s_callVV (d2 := d - 1) (As := [vR C.1.1 l1]) (st := []) (pc2 := 177) X dX7_readClause_174 rfl ml_RX7_121 im_X7_readWant se_X7_readWant kX7 rfl (c_X7_readWant (d - 1) (by omega) C.1 C.2.2.1 l0 l1) hy_X7_readWant rfl rfl hf hlo (st_room (Nat.le_of_ble_eq_true rfl)) hcs (fun _ => ?_)
      refine s_sub (lv2 := []) [] rfl ?_
      exact z_X7_readClause_L177 d hd K X
    · refine s_sub (lv2 := [(1, vR C.1.1 l1)]) [1] rfl ?_
      exact z_X7_readClause_L50 d hd K X l1
set_option maxRecDepth 4000 in
theorem z_X7_readClause_L30 (d : Nat) (hd : 7 ≤ d) {C : hCx} (K : hCtx C.1 C.2.2.1 d 0 0 "readClause" C) (X : hOK C cX7_readClause RX7 4 none) (l0 : Nat) (l1 : Nat) (l2 : Int) (l3 : Int) (s0 : Int) (h2 : inI l2) (h3 : inI l3) (g0 : inI s0) : hSim C none 0 0 4 30 [(0, vR C.1.1 l0), (1, vR C.1.1 l1), (2, vI l2), (3, vI l3)] [vI s0] 0 0 (m_X7_readClause_L30 l0 l1 l2 l3 s0) := by
  obtain ⟨⟨hf, hlo⟩, ⟨hc1, hc2⟩, hf1, hl1⟩ := K_room K (by omega)
  have hcs : 0 ≤ C.2.2.2.2.1.cells ∧ 0 ≤ C.2.2.2.2.1.slots := ⟨Nat.zero_le _, Nat.zero_le _⟩
  unfold m_X7_readClause_L30
  refine s_iload_n (j := 2) (pc2 := 31) X dX7_readClause_30 rfl rfl ?_
  refine s_ifne (tgt := 38) X dX7_readClause_31 (by decide) rfl h2 ?_ ?_
  · refine s_iconst (n := 0) (pc2 := 39) X dX7_readClause_38 rfl ?_
    refine s_sub (lv2 := [(0, vR C.1.1 l0), (1, vR C.1.1 l1), (3, vI l3)]) [0, 1, 3] rfl ?_
    exact z_X7_readClause_L39 d hd K X l0 l1 l3 s0 0 h3 g0 (inI_c 0 rfl)
  · refine s_iconst (n := 1) (pc2 := 35) X dX7_readClause_34 rfl ?_
    refine s_goto (pc2 := 39) X dX7_readClause_35 (by decide) ?_
    refine s_sub (lv2 := [(0, vR C.1.1 l0), (1, vR C.1.1 l1), (3, vI l3)]) [0, 1, 3] rfl ?_
    exact z_X7_readClause_L39 d hd K X l0 l1 l3 s0 1 h3 g0 (inI_c 1 rfl)
set_option maxRecDepth 4000 in
set_option maxHeartbeats 20000000 in
theorem z_X7_readClause (d : Nat) (hd : 7 ≤ d) {C : hCx} (K : hCtx C.1 C.2.2.1 d 0 0 "readClause" C) (X : hOK C cX7_readClause RX7 4 none) (l0 : Nat) (l1 : Nat) (l2 : Int) (h2 : inI l2) : hSim C none 0 0 4 0 [(0, vR C.1.1 l0), (1, vR C.1.1 l1), (2, vI l2)] [] 0 0 (m_X7_readClause l0 l1 l2) := by
  obtain ⟨⟨hf, hlo⟩, ⟨hc1, hc2⟩, hf1, hl1⟩ := K_room K (by omega)
  have hcs : 0 ≤ C.2.2.2.2.1.cells ∧ 0 ≤ C.2.2.2.2.1.slots := ⟨Nat.zero_le _, Nat.zero_le _⟩
  unfold m_X7_readClause
  refine s_aload_n (j := 1) (pc2 := 1) X dX7_readClause_0 rfl rfl ?_
  refine s_ldcS (j := 0) (pc2 := 3) X dX7_readClause_1 rfl rfl ?_
  refine s_callVI (d2 := d - 1) (As := [vS C.1 0]) (st := []) (pc2 := 6) X dX7_readClause_3 rfl ml_RX7_88 im_X6_word se_X6_word kX6 rfl (c_X6_word (d - 1) (by omega) C.1 C.2.2.1 l1 0) hy_X6_word rfl rfl hf hlo (st_room (Nat.le_of_ble_eq_true rfl)) hcs (fun v1 hv1 => ?_)
  refine s_istore_n (pc2 := 7) X dX7_readClause_6 rfl (by decide) rfl rfl cat1_I hv1 (fun w2 hw2 => ?_)
  refine s_aload_n (j := 2) (pc2 := 8) X dX7_readClause_7 rfl rfl ?_
  refine s_getI (pc2 := 11) X dX7_readClause_8 rfl fl_RX7_80 rfl (fun v3 hv3 => ?_)
  refine s_ifeq (tgt := 15) X dX7_readClause_11 (by decide) rfl hv3 ?_ ?_
  · refine s_iload_n (j := 3) (pc2 := 16) X dX7_readClause_15 rfl rfl ?_
    refine s_bipush (n := 40) (pc2 := 18) X dX7_readClause_16 rfl rfl ?_
    refine s_icge (tgt := 50) X dX7_readClause_18 (by decide) rfl h2 (inI_c 40 rfl) ?_ ?_
    · refine s_sub (lv2 := [(1, vR C.1.1 l1)]) [2] rfl ?_
      exact z_X7_readClause_L50 d hd K X l1
    · refine s_iload_n (j := 0) (pc2 := 22) X dX7_readClause_21 rfl rfl ?_
      refine s_ifne (tgt := 29) X dX7_readClause_22 (by decide) rfl hw2 ?_ ?_
      · refine s_iconst (n := 0) (pc2 := 30) X dX7_readClause_29 rfl ?_
        refine s_sub (lv2 := [(0, vR C.1.1 l0), (1, vR C.1.1 l1), (2, vI l2), (3, vI w2)]) [1, 2, 3, 0] rfl ?_
        exact z_X7_readClause_L30 d hd K X l0 l1 l2 w2 0 h2 hw2 (inI_c 0 rfl)
      · refine s_iconst (n := 1) (pc2 := 26) X dX7_readClause_25 rfl ?_
        refine s_goto (pc2 := 30) X dX7_readClause_26 (by decide) ?_
        refine s_sub (lv2 := [(0, vR C.1.1 l0), (1, vR C.1.1 l1), (2, vI l2), (3, vI w2)]) [1, 2, 3, 0] rfl ?_
        exact z_X7_readClause_L30 d hd K X l0 l1 l2 w2 1 h2 hw2 (inI_c 1 rfl)
  · exact s_ret X dX7_readClause_14
theorem c_X7_readClause (d : Nat) (hd : 7 ≤ d) (G : hG) (l : Launch) (l0 : Nat) (l1 : Nat) (l2 : Int) (h2 : inI l2) : hMet G l yX7_readClause cX7_readClause 4 none d 0 0 [vR G.1 l0, vR G.1 l1, vI l2] (m_X7_readClause l0 l1 l2) := by
  refine hMet.of (lv := [(0, vR G.1 l0), (1, vR G.1 l1), (2, vI l2)]) (by decide +kernel) (by simp [lg_sl, vR_cat, vI_cat, vL_cat, vS_cat2, vT_cat2]) (by simp [lv_args, vR_cat, vI_cat, vL_cat, vS_cat2, vT_cat2]) (fun C K X => ?_)
  obtain ⟨rfl, rfl, K⟩ := K
  exact z_X7_readClause d hd ⟨rfl, rfl, K⟩ X l0 l1 l2 h2
def m_X7_shorten_L49 : hM :=
  hret 0
def m_X7_shorten (l0 : Nat) (l1 : Int) (l2 : Int) (l3 : Int) : hM :=
  hlet ((w32 (l1 * 8))) fun (w1 : Int) =>
  hgR 7 l0 15 fun v2 =>
  haI 20 v2 ((w32 (w1 + l2))) fun v3 =>
  hgR 7 l0 15 fun v4 =>
  haI 20 v4 ((w32 (w1 + l3))) fun v5 =>
  hif (((w32 (v3 + 1))) ≥ v5) (
m_X7_shorten_L49) (
hgR 7 l0 15 fun v6 =>
  hgR 7 l0 15 fun v7 =>
  haI 20 v7 ((w32 (w1 + l2))) fun v8 =>
  hsI 20 v6 ((w32 (w1 + l3))) ((w32 (v8 + 1))) <|
  m_X7_shorten_L49)
set_option maxRecDepth 4000 in
theorem z_X7_shorten_L49 (d : Nat) (hd : 1 ≤ d) {C : hCx} (K : hCtx C.1 C.2.2.1 d 0 0 "shorten" C) (X : hOK C cX7_shorten RX7 5 none) : hSim C none 0 0 5 49 [] [] 0 0 (m_X7_shorten_L49) := by
  obtain ⟨⟨hf, hlo⟩, ⟨hc1, hc2⟩, hf1, hl1⟩ := K_room K (by omega)
  have hcs : 0 ≤ C.2.2.2.2.1.cells ∧ 0 ≤ C.2.2.2.2.1.slots := ⟨Nat.zero_le _, Nat.zero_le _⟩
  unfold m_X7_shorten_L49
  exact s_ret X dX7_shorten_49
set_option maxRecDepth 4000 in
set_option maxHeartbeats 20000000 in
theorem z_X7_shorten (d : Nat) (hd : 1 ≤ d) {C : hCx} (K : hCtx C.1 C.2.2.1 d 0 0 "shorten" C) (X : hOK C cX7_shorten RX7 5 none) (l0 : Nat) (l1 : Int) (l2 : Int) (l3 : Int) (h1 : inI l1) (h2 : inI l2) (h3 : inI l3) : hSim C none 0 0 5 0 [(0, vR C.1.1 l0), (1, vI l1), (2, vI l2), (3, vI l3)] [] 0 0 (m_X7_shorten l0 l1 l2 l3) := by
  obtain ⟨⟨hf, hlo⟩, ⟨hc1, hc2⟩, hf1, hl1⟩ := K_room K (by omega)
  have hcs : 0 ≤ C.2.2.2.2.1.cells ∧ 0 ≤ C.2.2.2.2.1.slots := ⟨Nat.zero_le _, Nat.zero_le _⟩
  unfold m_X7_shorten
  refine s_iload_n (j := 1) (pc2 := 1) X dX7_shorten_0 rfl rfl ?_
  refine s_bipush (n := 8) (pc2 := 3) X dX7_shorten_1 rfl rfl ?_
  refine s_imul (pc2 := 4) X dX7_shorten_3 rfl ?_
  refine s_istore (pc2 := 6) X dX7_shorten_4 rfl (by decide) rfl rfl cat1_I (w32_in _) (fun w1 hw1 => ?_)
  refine s_aload_n (j := 1) (pc2 := 7) X dX7_shorten_6 rfl rfl ?_
  refine s_getR (pc2 := 10) X dX7_shorten_7 rfl fl_RX7_64 rfl (fun v2 => ?_)
  refine s_iload (j := 0) (pc2 := 12) X dX7_shorten_10 rfl rfl ?_
  refine s_iload_n (j := 3) (pc2 := 13) X dX7_shorten_12 rfl rfl ?_
  refine s_iadd (pc2 := 14) X dX7_shorten_13 rfl ?_
  refine s_iald (pc2 := 15) X dX7_shorten_14 rfl (fun v3 hv3 => ?_)
  refine s_iconst (n := 1) (pc2 := 16) X dX7_shorten_15 rfl ?_
  refine s_iadd (pc2 := 17) X dX7_shorten_16 rfl ?_
  refine s_aload_n (j := 1) (pc2 := 18) X dX7_shorten_17 rfl rfl ?_
  refine s_getR (pc2 := 21) X dX7_shorten_18 rfl fl_RX7_64 rfl (fun v4 => ?_)
  refine s_iload (j := 0) (pc2 := 23) X dX7_shorten_21 rfl rfl ?_
  refine s_iload_n (j := 4) (pc2 := 24) X dX7_shorten_23 rfl rfl ?_
  refine s_iadd (pc2 := 25) X dX7_shorten_24 rfl ?_
  refine s_iald (pc2 := 26) X dX7_shorten_25 rfl (fun v5 hv5 => ?_)
  refine s_icge (tgt := 49) X dX7_shorten_26 (by decide) rfl (w32_in _) hv5 ?_ ?_
  · refine s_sub (lv2 := []) [] rfl ?_
    exact z_X7_shorten_L49 d hd K X
  · refine s_aload_n (j := 1) (pc2 := 30) X dX7_shorten_29 rfl rfl ?_
    refine s_getR (pc2 := 33) X dX7_shorten_30 rfl fl_RX7_64 rfl (fun v6 => ?_)
    refine s_iload (j := 0) (pc2 := 35) X dX7_shorten_33 rfl rfl ?_
    refine s_iload_n (j := 4) (pc2 := 36) X dX7_shorten_35 rfl rfl ?_
    refine s_iadd (pc2 := 37) X dX7_shorten_36 rfl ?_
    refine s_aload_n (j := 1) (pc2 := 38) X dX7_shorten_37 rfl rfl ?_
    refine s_getR (pc2 := 41) X dX7_shorten_38 rfl fl_RX7_64 rfl (fun v7 => ?_)
    refine s_iload (j := 0) (pc2 := 43) X dX7_shorten_41 rfl rfl ?_
    refine s_iload_n (j := 3) (pc2 := 44) X dX7_shorten_43 rfl rfl ?_
    refine s_iadd (pc2 := 45) X dX7_shorten_44 rfl ?_
    refine s_iald (pc2 := 46) X dX7_shorten_45 rfl (fun v8 hv8 => ?_)
    refine s_iconst (n := 1) (pc2 := 47) X dX7_shorten_46 rfl ?_
    refine s_iadd (pc2 := 48) X dX7_shorten_47 rfl ?_
    refine s_iast (pc2 := 49) X dX7_shorten_48 rfl (w32_in _) ?_
    refine s_sub (lv2 := []) [] rfl ?_
    exact z_X7_shorten_L49 d hd K X
theorem c_X7_shorten (d : Nat) (hd : 1 ≤ d) (G : hG) (l : Launch) (l0 : Nat) (l1 : Int) (l2 : Int) (l3 : Int) (h1 : inI l1) (h2 : inI l2) (h3 : inI l3) : hMet G l yX7_shorten cX7_shorten 5 none d 0 0 [vR G.1 l0, vI l1, vI l2, vI l3] (m_X7_shorten l0 l1 l2 l3) := by
  refine hMet.of (lv := [(0, vR G.1 l0), (1, vI l1), (2, vI l2), (3, vI l3)]) (by decide +kernel) (by simp [lg_sl, vR_cat, vI_cat, vL_cat, vS_cat2, vT_cat2]) (by simp [lv_args, vR_cat, vI_cat, vL_cat, vS_cat2, vT_cat2]) (fun C K X => ?_)
  obtain ⟨rfl, rfl, K⟩ := K
  exact z_X7_shorten d hd ⟨rfl, rfl, K⟩ X l0 l1 l2 l3 h1 h2 h3
def m_X7_findSteps_L43 (k11 : Nat → Int → hM) (k33 : Nat → Int → Int → hM) : Nat → Nat → Int → Int → Int → hM
  | 0, _, _, _, _ => hfail
  | n + 1, l0, l1, l2, l3 =>
    hgR 7 l0 2 fun v1 =>
  hgI 1 v1 3 fun v2 =>
  hif (l3 ≥ v2) (
hlet (w32 (l2 + 1)) fun (w3 : Int) =>
  k33 l0 l1 w3) (
hgR 7 l0 2 fun v4 =>
  hgR 1 v4 0 fun v5 =>
  haI 20 v5 l3 fun v6 =>
  hgR 7 l0 2 fun v7 =>
  hgR 1 v7 1 fun v8 =>
  haI 20 v8 l3 fun v9 =>
  hcallV 7 l0 (m_X7_shorten l0 l1 v6 v9) fun _ =>
  hgR 7 l0 2 fun v10 =>
  hgR 1 v10 1 fun v11 =>
  haI 20 v11 l3 fun v12 =>
  hgR 7 l0 2 fun v13 =>
  hgR 1 v13 0 fun v14 =>
  haI 20 v14 l3 fun v15 =>
  hcallV 7 l0 (m_X7_shorten l0 l1 v12 v15) fun _ =>
  hlet (w32 (l3 + 1)) fun (w16 : Int) =>
  m_X7_findSteps_L43 k11 k33 n l0 l1 l2 w16)
def m_X7_findSteps_L33 (k11 : Nat → Int → hM) : Nat → Nat → Int → Int → hM
  | 0, _, _, _ => hfail
  | n + 1, l0, l1, l2 =>
    hgI 7 l0 0 fun v1 =>
  hif (l2 ≥ v1) (
hlet (w32 (l1 + 1)) fun (w2 : Int) =>
  k11 l0 w2) (
hlet (0 : Int) fun (w3 : Int) =>
  m_X7_findSteps_L43 k11 (m_X7_findSteps_L33 k11 n) 1000000000 l0 l1 l2 w3)
def m_X7_findSteps_L11 : Nat → Nat → Int → hM
  | 0, _, _ => hfail
  | n + 1, l0, l1 =>
    hgI 7 l0 0 fun v1 =>
  hif (l1 ≥ v1) (
hret 0) (
hgR 7 l0 15 fun v2 =>
  hsI 20 v2 ((w32 (((w32 (l1 * 8))) + l1))) 0 <|
  hlet (1 : Int) fun (w3 : Int) =>
  m_X7_findSteps_L33 (m_X7_findSteps_L11 n) 1000000000 l0 l1 w3)
def m_X7_findSteps (l0 : Nat) : hM :=
  hgR 7 l0 15 fun v1 =>
  hcall (m_J7_fill_53178 v1 99) fun _ =>
  hlet (0 : Int) fun (w2 : Int) =>
  m_X7_findSteps_L11 1000000000 l0 w2
set_option maxRecDepth 4000 in
theorem z_X7_findSteps_L43 (d : Nat) (hd : 2 ≤ d) {C : hCx} (K : hCtx C.1 C.2.2.1 d 0 0 "findSteps" C) (X : hOK C cX7_findSteps RX7 4 none) (k11 : Nat → Int → hM) (hk11 : ∀ (l0 : Nat) (l1 : Int), inI l1 → hSim C none 0 0 4 11 [(0, vR C.1.1 l0), (1, vI l1)] [] 0 0 (k11 l0 l1)) (k33 : Nat → Int → Int → hM) (hk33 : ∀ (l0 : Nat) (l1 : Int) (l2 : Int), inI l1 → inI l2 → hSim C none 0 0 4 33 [(0, vR C.1.1 l0), (1, vI l1), (2, vI l2)] [] 0 0 (k33 l0 l1 l2)) : ∀ (n : Nat) (l0 : Nat) (l1 : Int) (l2 : Int) (l3 : Int) (h1 : inI l1) (h2 : inI l2) (h3 : inI l3), hSim C none 0 0 4 43 [(0, vR C.1.1 l0), (1, vI l1), (2, vI l2), (3, vI l3)] [] 0 0 (m_X7_findSteps_L43 k11 k33 n l0 l1 l2 l3) := by
  obtain ⟨⟨hf, hlo⟩, ⟨hc1, hc2⟩, hf1, hl1⟩ := K_room K (by omega)
  have hcs : 0 ≤ C.2.2.2.2.1.cells ∧ 0 ≤ C.2.2.2.2.1.slots := ⟨Nat.zero_le _, Nat.zero_le _⟩
  intro n
  induction n with
  | zero => intros; exact s_none (fun _ => rfl)
  | succ n ih =>
    intro l0 l1 l2 l3 h1 h2 h3
    unfold m_X7_findSteps_L43
    refine s_iload_n (j := 3) (pc2 := 44) X dX7_findSteps_43 rfl rfl ?_
    refine s_aload_n (j := 0) (pc2 := 45) X dX7_findSteps_44 rfl rfl ?_
    refine s_getR (pc2 := 48) X dX7_findSteps_45 rfl fl_RX7_23 rfl (fun v1 => ?_)
    refine s_getI (pc2 := 51) X dX7_findSteps_48 rfl fl_RX7_129 rfl (fun v2 hv2 => ?_)
    refine s_icge (tgt := 106) X dX7_findSteps_51 (by decide) rfl h3 hv2 ?_ ?_
    · refine s_iinc (j := 2) (pc2 := 109) X dX7_findSteps_106 rfl (by decide) rfl rfl rfl cat1_I (fun w3 hw3 => ?_)
      refine s_goto (pc2 := 33) X dX7_findSteps_109 (by decide) ?_
      refine s_sub (lv2 := [(0, vR C.1.1 l0), (1, vI l1), (2, vI w3)]) [1, 2, 0] rfl ?_
      exact hk33 l0 l1 w3 h1 hw3
    · refine s_aload_n (j := 0) (pc2 := 55) X dX7_findSteps_54 rfl rfl ?_
      refine s_iload_n (j := 1) (pc2 := 56) X dX7_findSteps_55 rfl rfl ?_
      refine s_aload_n (j := 0) (pc2 := 57) X dX7_findSteps_56 rfl rfl ?_
      refine s_getR (pc2 := 60) X dX7_findSteps_57 rfl fl_RX7_23 rfl (fun v4 => ?_)
      refine s_getR (pc2 := 63) X dX7_findSteps_60 rfl fl_RX7_138 rfl (fun v5 => ?_)
      refine s_iload_n (j := 3) (pc2 := 64) X dX7_findSteps_63 rfl rfl ?_
      refine s_iald (pc2 := 65) X dX7_findSteps_64 rfl (fun v6 hv6 => ?_)
      refine s_aload_n (j := 0) (pc2 := 66) X dX7_findSteps_65 rfl rfl ?_
      refine s_getR (pc2 := 69) X dX7_findSteps_66 rfl fl_RX7_23 rfl (fun v7 => ?_)
      refine s_getR (pc2 := 72) X dX7_findSteps_69 rfl fl_RX7_141 rfl (fun v8 => ?_)
      refine s_iload_n (j := 3) (pc2 := 73) X dX7_findSteps_72 rfl rfl ?_
      refine s_iald (pc2 := 74) X dX7_findSteps_73 rfl (fun v9 hv9 => ?_)
      refine s_callVV (d2 := d - 1) (As := [vI l1, vI v6, vI v9]) (st := []) (pc2 := 77) X dX7_findSteps_74 rfl ml_RX7_144 im_X7_shorten se_X7_shorten kX7 rfl (c_X7_shorten (d - 1) (by omega) C.1 C.2.2.1 l0 l1 v6 v9 h1 hv6 hv9) hy_X7_shorten rfl rfl hf hlo (st_room (Nat.le_of_ble_eq_true rfl)) hcs (fun _ => ?_)
      refine s_aload_n (j := 0) (pc2 := 78) X dX7_findSteps_77 rfl rfl ?_
      refine s_iload_n (j := 1) (pc2 := 79) X dX7_findSteps_78 rfl rfl ?_
      refine s_aload_n (j := 0) (pc2 := 80) X dX7_findSteps_79 rfl rfl ?_
      refine s_getR (pc2 := 83) X dX7_findSteps_80 rfl fl_RX7_23 rfl (fun v10 => ?_)
      refine s_getR (pc2 := 86) X dX7_findSteps_83 rfl fl_RX7_141 rfl (fun v11 => ?_)
      refine s_iload_n (j := 3) (pc2 := 87) X dX7_findSteps_86 rfl rfl ?_
      refine s_iald (pc2 := 88) X dX7_findSteps_87 rfl (fun v12 hv12 => ?_)
      refine s_aload_n (j := 0) (pc2 := 89) X dX7_findSteps_88 rfl rfl ?_
      refine s_getR (pc2 := 92) X dX7_findSteps_89 rfl fl_RX7_23 rfl (fun v13 => ?_)
      refine s_getR (pc2 := 95) X dX7_findSteps_92 rfl fl_RX7_138 rfl (fun v14 => ?_)
      refine s_iload_n (j := 3) (pc2 := 96) X dX7_findSteps_95 rfl rfl ?_
      refine s_iald (pc2 := 97) X dX7_findSteps_96 rfl (fun v15 hv15 => ?_)
      refine s_callVV (d2 := d - 1) (As := [vI l1, vI v12, vI v15]) (st := []) (pc2 := 100) X dX7_findSteps_97 rfl ml_RX7_144 im_X7_shorten se_X7_shorten kX7 rfl (c_X7_shorten (d - 1) (by omega) C.1 C.2.2.1 l0 l1 v12 v15 h1 hv12 hv15) hy_X7_shorten rfl rfl hf hlo (st_room (Nat.le_of_ble_eq_true rfl)) hcs (fun _ => ?_)
      refine s_iinc (j := 3) (pc2 := 103) X dX7_findSteps_100 rfl (by decide) rfl rfl rfl cat1_I (fun w16 hw16 => ?_)
      refine s_goto (pc2 := 43) X dX7_findSteps_103 (by decide) ?_
      refine s_sub (lv2 := [(0, vR C.1.1 l0), (1, vI l1), (2, vI l2), (3, vI w16)]) [1, 2, 3, 0] rfl ?_
      exact ih l0 l1 l2 w16 h1 h2 hw16
set_option maxRecDepth 4000 in
theorem z_X7_findSteps_L33 (d : Nat) (hd : 2 ≤ d) {C : hCx} (K : hCtx C.1 C.2.2.1 d 0 0 "findSteps" C) (X : hOK C cX7_findSteps RX7 4 none) (k11 : Nat → Int → hM) (hk11 : ∀ (l0 : Nat) (l1 : Int), inI l1 → hSim C none 0 0 4 11 [(0, vR C.1.1 l0), (1, vI l1)] [] 0 0 (k11 l0 l1)) : ∀ (n : Nat) (l0 : Nat) (l1 : Int) (l2 : Int) (h1 : inI l1) (h2 : inI l2), hSim C none 0 0 4 33 [(0, vR C.1.1 l0), (1, vI l1), (2, vI l2)] [] 0 0 (m_X7_findSteps_L33 k11 n l0 l1 l2) := by
  obtain ⟨⟨hf, hlo⟩, ⟨hc1, hc2⟩, hf1, hl1⟩ := K_room K (by omega)
  have hcs : 0 ≤ C.2.2.2.2.1.cells ∧ 0 ≤ C.2.2.2.2.1.slots := ⟨Nat.zero_le _, Nat.zero_le _⟩
  intro n
  induction n with
  | zero => intros; exact s_none (fun _ => rfl)
  | succ n ih =>
    intro l0 l1 l2 h1 h2
    unfold m_X7_findSteps_L33
    refine s_iload_n (j := 2) (pc2 := 34) X dX7_findSteps_33 rfl rfl ?_
    refine s_aload_n (j := 0) (pc2 := 35) X dX7_findSteps_34 rfl rfl ?_
    refine s_getI (pc2 := 38) X dX7_findSteps_35 rfl fl_RX7_9 rfl (fun v1 hv1 => ?_)
    refine s_icge (tgt := 112) X dX7_findSteps_38 (by decide) rfl h2 hv1 ?_ ?_
    · refine s_iinc (j := 1) (pc2 := 115) X dX7_findSteps_112 rfl (by decide) rfl rfl rfl cat1_R (fun w2 hw2 => ?_)
      refine s_goto (pc2 := 11) X dX7_findSteps_115 (by decide) ?_
      refine s_sub (lv2 := [(0, vR C.1.1 l0), (1, vI w2)]) [1, 0] rfl ?_
      exact hk11 l0 w2 hw2
    · refine s_iconst (n := 0) (pc2 := 42) X dX7_findSteps_41 rfl ?_
      refine s_istore_n (pc2 := 43) X dX7_findSteps_42 rfl (by decide) rfl rfl cat1_I (inI_c 0 rfl) (fun w3 hw3 => ?_)
      refine s_sub (lv2 := [(0, vR C.1.1 l0), (1, vI l1), (2, vI l2), (3, vI w3)]) [1, 2, 3, 0] rfl ?_
      exact z_X7_findSteps_L43 d hd K X k11 hk11 (m_X7_findSteps_L33 k11 n) ih 1000000000 l0 l1 l2 w3 h1 h2 hw3
set_option maxRecDepth 4000 in
theorem z_X7_findSteps_L11 (d : Nat) (hd : 2 ≤ d) {C : hCx} (K : hCtx C.1 C.2.2.1 d 0 0 "findSteps" C) (X : hOK C cX7_findSteps RX7 4 none) : ∀ (n : Nat) (l0 : Nat) (l1 : Int) (h1 : inI l1), hSim C none 0 0 4 11 [(0, vR C.1.1 l0), (1, vI l1)] [] 0 0 (m_X7_findSteps_L11 n l0 l1) := by
  obtain ⟨⟨hf, hlo⟩, ⟨hc1, hc2⟩, hf1, hl1⟩ := K_room K (by omega)
  have hcs : 0 ≤ C.2.2.2.2.1.cells ∧ 0 ≤ C.2.2.2.2.1.slots := ⟨Nat.zero_le _, Nat.zero_le _⟩
  intro n
  induction n with
  | zero => intros; exact s_none (fun _ => rfl)
  | succ n ih =>
    intro l0 l1 h1
    unfold m_X7_findSteps_L11
    refine s_iload_n (j := 1) (pc2 := 12) X dX7_findSteps_11 rfl rfl ?_
    refine s_aload_n (j := 0) (pc2 := 13) X dX7_findSteps_12 rfl rfl ?_
    refine s_getI (pc2 := 16) X dX7_findSteps_13 rfl fl_RX7_9 rfl (fun v1 hv1 => ?_)
    refine s_icge (tgt := 118) X dX7_findSteps_16 (by decide) rfl h1 hv1 ?_ ?_
    · exact s_ret X dX7_findSteps_118
    · refine s_aload_n (j := 0) (pc2 := 20) X dX7_findSteps_19 rfl rfl ?_
      refine s_getR (pc2 := 23) X dX7_findSteps_20 rfl fl_RX7_64 rfl (fun v2 => ?_)
      refine s_iload_n (j := 1) (pc2 := 24) X dX7_findSteps_23 rfl rfl ?_
      refine s_bipush (n := 8) (pc2 := 26) X dX7_findSteps_24 rfl rfl ?_
      refine s_imul (pc2 := 27) X dX7_findSteps_26 rfl ?_
      refine s_iload_n (j := 1) (pc2 := 28) X dX7_findSteps_27 rfl rfl ?_
      refine s_iadd (pc2 := 29) X dX7_findSteps_28 rfl ?_
      refine s_iconst (n := 0) (pc2 := 30) X dX7_findSteps_29 rfl ?_
      refine s_iast (pc2 := 31) X dX7_findSteps_30 rfl (inI_c 0 rfl) ?_
      refine s_iconst (n := 1) (pc2 := 32) X dX7_findSteps_31 rfl ?_
      refine s_istore_n (pc2 := 33) X dX7_findSteps_32 rfl (by decide) rfl rfl cat1_I (inI_c 1 rfl) (fun w3 hw3 => ?_)
      refine s_sub (lv2 := [(0, vR C.1.1 l0), (1, vI l1), (2, vI w3)]) [1, 2, 0] rfl ?_
      exact z_X7_findSteps_L33 d hd K X (m_X7_findSteps_L11 n) ih 1000000000 l0 l1 w3 h1 hw3
set_option maxRecDepth 4000 in
set_option maxHeartbeats 20000000 in
theorem z_X7_findSteps (d : Nat) (hd : 2 ≤ d) {C : hCx} (K : hCtx C.1 C.2.2.1 d 0 0 "findSteps" C) (X : hOK C cX7_findSteps RX7 4 none) (l0 : Nat) : hSim C none 0 0 4 0 [(0, vR C.1.1 l0)] [] 0 0 (m_X7_findSteps l0) := by
  obtain ⟨⟨hf, hlo⟩, ⟨hc1, hc2⟩, hf1, hl1⟩ := K_room K (by omega)
  have hcs : 0 ≤ C.2.2.2.2.1.cells ∧ 0 ≤ C.2.2.2.2.1.slots := ⟨Nat.zero_le _, Nat.zero_le _⟩
  unfold m_X7_findSteps
  refine s_aload_n (j := 0) (pc2 := 1) X dX7_findSteps_0 rfl rfl ?_
  refine s_getR (pc2 := 4) X dX7_findSteps_1 rfl fl_RX7_64 rfl (fun v1 => ?_)
  refine s_bipush (n := 99) (pc2 := 6) X dX7_findSteps_4 rfl rfl ?_
  refine s_callSV (d2 := d - 1) (As := [vR C.1.1 v1, vI 99]) (st := []) (pc2 := 9) X dX7_findSteps_6 rfl ml_RX7_132 sm_J7_fill_53178 (c_J7_fill_53178 (d - 1) (by omega) C.1 C.2.2.1 v1 99 (inI_c 99 rfl)) hy_J7_fill_53178 rfl rfl hf hlo (st_room (Nat.le_of_ble_eq_true rfl)) hcs (fun _ => ?_)
  refine s_iconst (n := 0) (pc2 := 10) X dX7_findSteps_9 rfl ?_
  refine s_istore_n (pc2 := 11) X dX7_findSteps_10 rfl (by decide) rfl rfl cat1_R (inI_c 0 rfl) (fun w2 hw2 => ?_)
  refine s_sub (lv2 := [(0, vR C.1.1 l0), (1, vI w2)]) [1, 0] rfl ?_
  exact z_X7_findSteps_L11 d hd K X 1000000000 l0 w2 hw2
theorem c_X7_findSteps (d : Nat) (hd : 2 ≤ d) (G : hG) (l : Launch) (l0 : Nat) : hMet G l yX7_findSteps cX7_findSteps 4 none d 0 0 [vR G.1 l0] (m_X7_findSteps l0) := by
  refine hMet.of (lv := [(0, vR G.1 l0)]) (by decide +kernel) (by simp [lg_sl, vR_cat, vI_cat, vL_cat, vS_cat2, vT_cat2]) (by simp [lv_args, vR_cat, vI_cat, vL_cat, vS_cat2, vT_cat2]) (fun C K X => ?_)
  obtain ⟨rfl, rfl, K⟩ := K
  exact z_X7_findSteps d hd ⟨rfl, rfl, K⟩ X l0
def m_X7_read_L46 : hM :=
  hret 0
def m_X7_read_L35 (l0 : Nat) (l1 : Nat) : hM :=
  hgI 6 l1 4 fun v1 =>
  hif (v1 ≠ 0) (
m_X7_read_L46) (
hcallV 7 l0 (m_X7_findSteps l0) fun _ =>
  m_X7_read_L46)
def m_X7_read_L8 : Nat → Nat → Nat → Int → Int → hM
  | 0, _, _, _, _ => hfail
  | n + 1, l0, l1, l2, l3 =>
    hif (l2 = 0) (
m_X7_read_L35 l0 l1) (
hif (l3 > 40) (
m_X7_read_L35 l0 l1) (
hcallV 7 l0 (m_X7_readClause l0 l1 l3) fun _ =>
  hcallV 6 l1 (m_X6_takeNextClause l1) fun v1 =>
  hlet v1 fun (w2 : Int) =>
  hlet (w32 (l3 + 1)) fun (w3 : Int) =>
  m_X7_read_L8 n l0 l1 w2 w3))
def m_X7_read (l0 : Nat) (l1 : Nat) : hM :=
  hcallV 6 l1 (m_X6_begin l1) fun _ =>
  hlet (1 : Int) fun (w1 : Int) =>
  hlet (0 : Int) fun (w2 : Int) =>
  m_X7_read_L8 1000000000 l0 l1 w1 w2
set_option maxRecDepth 4000 in
theorem z_X7_read_L46 (d : Nat) (hd : 8 ≤ d) {C : hCx} (K : hCtx C.1 C.2.2.1 d 0 0 "read" C) (X : hOK C cX7_read RX7 4 none) : hSim C none 0 0 4 46 [] [] 0 0 (m_X7_read_L46) := by
  obtain ⟨⟨hf, hlo⟩, ⟨hc1, hc2⟩, hf1, hl1⟩ := K_room K (by omega)
  have hcs : 0 ≤ C.2.2.2.2.1.cells ∧ 0 ≤ C.2.2.2.2.1.slots := ⟨Nat.zero_le _, Nat.zero_le _⟩
  unfold m_X7_read_L46
  exact s_ret X dX7_read_46
set_option maxRecDepth 4000 in
theorem z_X7_read_L35 (d : Nat) (hd : 8 ≤ d) {C : hCx} (K : hCtx C.1 C.2.2.1 d 0 0 "read" C) (X : hOK C cX7_read RX7 4 none) (l0 : Nat) (l1 : Nat) : hSim C none 0 0 4 35 [(0, vR C.1.1 l0), (1, vR C.1.1 l1)] [] 0 0 (m_X7_read_L35 l0 l1) := by
  obtain ⟨⟨hf, hlo⟩, ⟨hc1, hc2⟩, hf1, hl1⟩ := K_room K (by omega)
  have hcs : 0 ≤ C.2.2.2.2.1.cells ∧ 0 ≤ C.2.2.2.2.1.slots := ⟨Nat.zero_le _, Nat.zero_le _⟩
  unfold m_X7_read_L35
  refine s_aload_n (j := 1) (pc2 := 36) X dX7_read_35 rfl rfl ?_
  refine s_getI (pc2 := 39) X dX7_read_36 rfl fl_RX7_80 rfl (fun v1 hv1 => ?_)
  refine s_ifne (tgt := 46) X dX7_read_39 (by decide) rfl hv1 ?_ ?_
  · refine s_sub (lv2 := []) [] rfl ?_
    exact z_X7_read_L46 d hd K X
  · refine s_aload_n (j := 0) (pc2 := 43) X dX7_read_42 rfl rfl ?_
    refine s_callVV (d2 := d - 1) (As := []) (st := []) (pc2 := 46) X dX7_read_43 rfl ml_RX7_83 im_X7_findSteps se_X7_findSteps kX7 rfl (c_X7_findSteps (d - 1) (by omega) C.1 C.2.2.1 l0) hy_X7_findSteps rfl rfl hf hlo (st_room (Nat.le_of_ble_eq_true rfl)) hcs (fun _ => ?_)
    refine s_sub (lv2 := []) [] rfl ?_
    exact z_X7_read_L46 d hd K X
set_option maxRecDepth 4000 in
theorem z_X7_read_L8 (d : Nat) (hd : 8 ≤ d) {C : hCx} (K : hCtx C.1 C.2.2.1 d 0 0 "read" C) (X : hOK C cX7_read RX7 4 none) : ∀ (n : Nat) (l0 : Nat) (l1 : Nat) (l2 : Int) (l3 : Int) (h2 : inI l2) (h3 : inI l3), hSim C none 0 0 4 8 [(0, vR C.1.1 l0), (1, vR C.1.1 l1), (2, vI l2), (3, vI l3)] [] 0 0 (m_X7_read_L8 n l0 l1 l2 l3) := by
  obtain ⟨⟨hf, hlo⟩, ⟨hc1, hc2⟩, hf1, hl1⟩ := K_room K (by omega)
  have hcs : 0 ≤ C.2.2.2.2.1.cells ∧ 0 ≤ C.2.2.2.2.1.slots := ⟨Nat.zero_le _, Nat.zero_le _⟩
  intro n
  induction n with
  | zero => intros; exact s_none (fun _ => rfl)
  | succ n ih =>
    intro l0 l1 l2 l3 h2 h3
    unfold m_X7_read_L8
    refine s_iload_n (j := 2) (pc2 := 9) X dX7_read_8 rfl rfl ?_
    refine s_ifeq (tgt := 35) X dX7_read_9 (by decide) rfl h2 ?_ ?_
    · refine s_sub (lv2 := [(0, vR C.1.1 l0), (1, vR C.1.1 l1)]) [0, 1] rfl ?_
      exact z_X7_read_L35 d hd K X l0 l1
    · refine s_iload_n (j := 3) (pc2 := 13) X dX7_read_12 rfl rfl ?_
      refine s_bipush (n := 40) (pc2 := 15) X dX7_read_13 rfl rfl ?_
      refine s_icgt (tgt := 35) X dX7_read_15 (by decide) rfl h3 (inI_c 40 rfl) ?_ ?_
      · refine s_sub (lv2 := [(0, vR C.1.1 l0), (1, vR C.1.1 l1)]) [0, 1] rfl ?_
        exact z_X7_read_L35 d hd K X l0 l1
      · refine s_aload_n (j := 0) (pc2 := 19) X dX7_read_18 rfl rfl ?_
        refine s_aload_n (j := 1) (pc2 := 20) X dX7_read_19 rfl rfl ?_
        refine s_iload_n (j := 3) (pc2 := 21) X dX7_read_20 rfl rfl ?_
        refine s_callVV (d2 := d - 1) (As := [vR C.1.1 l1, vI l3]) (st := []) (pc2 := 24) X dX7_read_21 rfl ml_RX7_72 im_X7_readClause se_X7_readClause kX7 rfl (c_X7_readClause (d - 1) (by omega) C.1 C.2.2.1 l0 l1 l3 h3) hy_X7_readClause rfl rfl hf hlo (st_room (Nat.le_of_ble_eq_true rfl)) hcs (fun _ => ?_)
        refine s_aload_n (j := 1) (pc2 := 25) X dX7_read_24 rfl rfl ?_
        refine s_callVZ (d2 := d - 1) (As := []) (st := []) (pc2 := 28) X dX7_read_25 rfl ml_RX7_76 im_X6_takeNextClause se_X6_takeNextClause kX6 rfl (c_X6_takeNextClause (d - 1) (by omega) C.1 C.2.2.1 l1) hy_X6_takeNextClause rfl rfl hf hlo (st_room (Nat.le_of_ble_eq_true rfl)) hcs (fun v1 hv1 => ?_)
        refine s_istore_n (pc2 := 29) X dX7_read_28 rfl (by decide) rfl rfl cat1_R hv1 (fun w2 hw2 => ?_)
        refine s_iinc (j := 3) (pc2 := 32) X dX7_read_29 rfl (by decide) rfl rfl rfl cat1_I (fun w3 hw3 => ?_)
        refine s_goto (pc2 := 8) X dX7_read_32 (by decide) ?_
        refine s_sub (lv2 := [(0, vR C.1.1 l0), (1, vR C.1.1 l1), (2, vI w2), (3, vI w3)]) [2, 3, 1, 0] rfl ?_
        exact ih l0 l1 w2 w3 hw2 hw3
set_option maxRecDepth 4000 in
set_option maxHeartbeats 20000000 in
theorem z_X7_read (d : Nat) (hd : 8 ≤ d) {C : hCx} (K : hCtx C.1 C.2.2.1 d 0 0 "read" C) (X : hOK C cX7_read RX7 4 none) (l0 : Nat) (l1 : Nat) : hSim C none 0 0 4 0 [(0, vR C.1.1 l0), (1, vR C.1.1 l1)] [] 0 0 (m_X7_read l0 l1) := by
  obtain ⟨⟨hf, hlo⟩, ⟨hc1, hc2⟩, hf1, hl1⟩ := K_room K (by omega)
  have hcs : 0 ≤ C.2.2.2.2.1.cells ∧ 0 ≤ C.2.2.2.2.1.slots := ⟨Nat.zero_le _, Nat.zero_le _⟩
  unfold m_X7_read
  refine s_aload_n (j := 1) (pc2 := 1) X dX7_read_0 rfl rfl ?_
  refine s_callVV (d2 := d - 1) (As := []) (st := []) (pc2 := 4) X dX7_read_1 rfl ml_RX7_67 im_X6_begin se_X6_begin kX6 rfl (c_X6_begin (d - 1) (by omega) C.1 C.2.2.1 l1) hy_X6_begin rfl rfl hf hlo (st_room (Nat.le_of_ble_eq_true rfl)) hcs (fun _ => ?_)
  refine s_iconst (n := 1) (pc2 := 5) X dX7_read_4 rfl ?_
  refine s_istore_n (pc2 := 6) X dX7_read_5 rfl (by decide) rfl rfl cat1_R (inI_c 1 rfl) (fun w1 hw1 => ?_)
  refine s_iconst (n := 0) (pc2 := 7) X dX7_read_6 rfl ?_
  refine s_istore_n (pc2 := 8) X dX7_read_7 rfl (by decide) rfl rfl cat1_I (inI_c 0 rfl) (fun w2 hw2 => ?_)
  refine s_sub (lv2 := [(0, vR C.1.1 l0), (1, vR C.1.1 l1), (2, vI w1), (3, vI w2)]) [2, 3, 1, 0] rfl ?_
  exact z_X7_read_L8 d hd K X 1000000000 l0 l1 w1 w2 hw1 hw2
theorem c_X7_read (d : Nat) (hd : 8 ≤ d) (G : hG) (l : Launch) (l0 : Nat) (l1 : Nat) : hMet G l yX7_read cX7_read 4 none d 0 0 [vR G.1 l0, vR G.1 l1] (m_X7_read l0 l1) := by
  refine hMet.of (lv := [(0, vR G.1 l0), (1, vR G.1 l1)]) (by decide +kernel) (by simp [lg_sl, vR_cat, vI_cat, vL_cat, vS_cat2, vT_cat2]) (by simp [lv_args, vR_cat, vI_cat, vL_cat, vS_cat2, vT_cat2]) (fun C K X => ?_)
  obtain ⟨rfl, rfl, K⟩ := K
  exact z_X7_read d hd ⟨rfl, rfl, K⟩ X l0 l1
